theorem oS_1000 : (Int16.ofInt (1000)).toInt32 = (1000 : Int32) := by decide +kernel
theorem lf_X2_11 : xfl RX2 11 1 2 (tyX2 2) true := ⟨_, _, _, _, xc_X2, by decide, rfl, rfl, rfl, lw_gm 329 (by decide +kernel) rfl⟩
theorem lf_X2_17 : xfl RX2 17 1 3 (tyX2 3) true := ⟨_, _, _, _, xc_X2, by decide, rfl, rfl, rfl, lw_gm 330 (by decide +kernel) rfl⟩
theorem lf_X2_20 : xfl RX2 20 1 4 (tyX2 4) true := ⟨_, _, _, _, xc_X2, by decide, rfl, rfl, rfl, lw_gm 331 (by decide +kernel) rfl⟩
theorem lf_X2_23 : xfl RX2 23 1 5 (tyX2 5) true := ⟨_, _, _, _, xc_X2, by decide, rfl, rfl, rfl, lw_gm 332 (by decide +kernel) rfl⟩
theorem lf_X2_26 : xfl RX2 26 1 6 (tyX2 6) true := ⟨_, _, _, _, xc_X2, by decide, rfl, rfl, rfl, lw_gm 333 (by decide +kernel) rfl⟩
theorem lf_X2_29 : xfl RX2 29 1 7 (tyX2 7) true := ⟨_, _, _, _, xc_X2, by decide, rfl, rfl, rfl, lw_gm 334 (by decide +kernel) rfl⟩
theorem lf_X2_32 : xfl RX2 32 1 0 (tyX2 0) true := ⟨_, _, _, _, xc_X2, by decide, rfl, rfl, rfl, lw_gm 327 (by decide +kernel) rfl⟩
theorem lf_X2_36 : xfl RX2 36 1 1 (tyX2 1) true := ⟨_, _, _, _, xc_X2, by decide, rfl, rfl, rfl, lw_gm 328 (by decide +kernel) rfl⟩
theorem lf_X2_66 : xfl RX2 66 4 3 (tyX5 3) true := ⟨_, _, _, _, xc_X5, by decide, rfl, rfl, rfl, lw_gm 279 (by decide +kernel) rfl⟩
theorem lf_X2_69 : xfl RX2 69 0 0 (tyX0 0) true := ⟨_, _, _, _, xc_X0, by decide, rfl, rfl, rfl, lw_gm 148 (by decide +kernel) rfl⟩
theorem lf_X2_80 : xfl RX2 80 0 1 (tyX0 1) false := ⟨_, _, _, _, xc_X0, by decide, rfl, rfl, rfl, lw_gm 153 (by decide +kernel) rfl⟩
theorem lf_X2_91 : xfl RX2 91 1 8 (tyX2 8) false := ⟨_, _, _, _, xc_X2, by decide, rfl, rfl, rfl, lw_gm 335 (by decide +kernel) rfl⟩
theorem lf_X2_94 : xfl RX2 94 1 9 (tyX2 9) false := ⟨_, _, _, _, xc_X2, by decide, rfl, rfl, rfl, lw_gm 336 (by decide +kernel) rfl⟩
theorem lc_X2_100 : xlV RX2 100 yX5_firstOf cX5_firstOf 3 (some .int) 2 4 := ⟨⟨lw_gm 859 (by decide +kernel) rfl, lw_gm 111 (by decide +kernel) rfl, lw_gm 862 (by decide +kernel) rfl, ⟨by decide, by decide, by decide +kernel⟩, by decide⟩, lw_gm 860 (by decide +kernel) rfl, lw_gm 861 (by decide +kernel) rfl, _, _, rfl⟩
theorem lc_X2_104 : xlV RX2 104 yX5_kindOf cX5_kindOf 3 (some .int) 2 4 := ⟨⟨lw_gm 863 (by decide +kernel) rfl, lw_gm 111 (by decide +kernel) rfl, lw_gm 866 (by decide +kernel) rfl, ⟨by decide, by decide, by decide +kernel⟩, by decide⟩, lw_gm 864 (by decide +kernel) rfl, lw_gm 865 (by decide +kernel) rfl, _, _, rfl⟩
theorem lc_X2_107 : xlV RX2 107 yX5_secondOf cX5_secondOf 3 (some .int) 2 4 := ⟨⟨lw_gm 867 (by decide +kernel) rfl, lw_gm 111 (by decide +kernel) rfl, lw_gm 870 (by decide +kernel) rfl, ⟨by decide, by decide, by decide +kernel⟩, by decide⟩, lw_gm 868 (by decide +kernel) rfl, lw_gm 869 (by decide +kernel) rfl, _, _, rfl⟩
theorem lc_X2_110 : xlV RX2 110 yX2_arrangeFault cX2_arrangeFault 4 none 3 1 := ⟨⟨lw_gm 871 (by decide +kernel) rfl, lw_gm 112 (by decide +kernel) rfl, lw_gm 874 (by decide +kernel) rfl, ⟨by decide, by decide, by decide +kernel⟩, by decide⟩, lw_gm 873 (by decide +kernel) rfl, lw_gm 16 (by decide +kernel) rfl, _, _, rfl⟩
theorem lc_X2_114 : xlS RX2 114 yX5_wheel cX5_wheel 1 (some .int) 1 := ⟨⟨lw_gm 876 (by decide +kernel) rfl, lw_gm 111 (by decide +kernel) rfl, lw_gm 878 (by decide +kernel) rfl, ⟨by decide, by decide, by decide +kernel⟩, by decide⟩, lw_gm 877 (by decide +kernel) rfl⟩
theorem lc_X2_117 : xlS RX2 117 Lib.Math.min.name Lib.Math.min.code 2 (some .int) 2 := ⟨⟨lw_gm 879 (by decide +kernel) rfl, lw_gm 107 (by decide +kernel) rfl, lw_gm 142 (by decide +kernel) rfl, ⟨by decide, by decide, by decide +kernel⟩, by decide⟩, lw_gm 141 (by decide +kernel) rfl⟩
theorem lc_X2_122 : xlS RX2 122 yX1_swap cX1_swap 4 none 3 := ⟨⟨lw_gm 880 (by decide +kernel) rfl, lw_gm 106 (by decide +kernel) rfl, lw_gm 882 (by decide +kernel) rfl, ⟨by decide, by decide, by decide +kernel⟩, by decide⟩, lw_gm 881 (by decide +kernel) rfl⟩
theorem lc_X2_125 : xlV RX2 125 yX5_shownAt cX5_shownAt 3 (some .int) 2 4 := ⟨⟨lw_gm 892 (by decide +kernel) rfl, lw_gm 111 (by decide +kernel) rfl, lw_gm 895 (by decide +kernel) rfl, ⟨by decide, by decide, by decide +kernel⟩, by decide⟩, lw_gm 893 (by decide +kernel) rfl, lw_gm 894 (by decide +kernel) rfl, _, _, rfl⟩
theorem lc_X2_128 : xlS RX2 128 yX1_modulo cX1_modulo 2 (some .int) 2 := ⟨⟨lw_gm 896 (by decide +kernel) rfl, lw_gm 106 (by decide +kernel) rfl, lw_gm 898 (by decide +kernel) rfl, ⟨by decide, by decide, by decide +kernel⟩, by decide⟩, lw_gm 897 (by decide +kernel) rfl⟩
theorem lc_X2_131 : xlV RX2 131 yX0_mostOf cX0_mostOf 2 (some .int) 1 0 := ⟨⟨lw_gm 906 (by decide +kernel) rfl, lw_gm 105 (by decide +kernel) rfl, lw_gm 573 (by decide +kernel) rfl, ⟨by decide, by decide, by decide +kernel⟩, by decide⟩, lw_gm 571 (by decide +kernel) rfl, lw_gm 572 (by decide +kernel) rfl, _, _, rfl⟩
theorem lc_X2_134 : xlV RX2 134 yX0_leversOf cX0_leversOf 2 (some .int) 1 0 := ⟨⟨lw_gm 907 (by decide +kernel) rfl, lw_gm 105 (by decide +kernel) rfl, lw_gm 569 (by decide +kernel) rfl, ⟨by decide, by decide, by decide +kernel⟩, by decide⟩, lw_gm 567 (by decide +kernel) rfl, lw_gm 568 (by decide +kernel) rfl, _, _, rfl⟩
theorem lc_X2_137 : xlV RX2 137 yX2_low cX2_low 2 (some .int) 1 1 := ⟨⟨lw_gm 908 (by decide +kernel) rfl, lw_gm 112 (by decide +kernel) rfl, lw_gm 911 (by decide +kernel) rfl, ⟨by decide, by decide, by decide +kernel⟩, by decide⟩, lw_gm 909 (by decide +kernel) rfl, lw_gm 910 (by decide +kernel) rfl, _, _, rfl⟩
theorem lc_X2_140 : xlV RX2 140 yX2_lay cX2_lay 5 (some .boolean) 2 1 := ⟨⟨lw_gm 846 (by decide +kernel) rfl, lw_gm 112 (by decide +kernel) rfl, lw_gm 849 (by decide +kernel) rfl, ⟨by decide, by decide, by decide +kernel⟩, by decide⟩, lw_gm 847 (by decide +kernel) rfl, lw_gm 848 (by decide +kernel) rfl, _, _, rfl⟩
theorem lc_X2_143 : xlS RX2 143 yX1_better cX1_better 5 (some .boolean) 2 := ⟨⟨lw_gm 924 (by decide +kernel) rfl, lw_gm 106 (by decide +kernel) rfl, lw_gm 593 (by decide +kernel) rfl, ⟨by decide, by decide, by decide +kernel⟩, by decide⟩, lw_gm 592 (by decide +kernel) rfl⟩
theorem lc_X2_40 : xlS RX2 40 yX1_at cX1_at 2 (some .int) 2 := ⟨⟨lw_gm 875 (by decide +kernel) rfl, lw_gm 106 (by decide +kernel) rfl, lw_gm 560 (by decide +kernel) rfl, ⟨by decide, by decide, by decide +kernel⟩, by decide⟩, lw_gm 559 (by decide +kernel) rfl⟩
theorem lc_X2_46 : xlV RX2 46 yX5_faultsOf cX5_faultsOf 2 (some .int) 1 4 := ⟨⟨lw_gm 844 (by decide +kernel) rfl, lw_gm 111 (by decide +kernel) rfl, lw_gm 822 (by decide +kernel) rfl, ⟨by decide, by decide, by decide +kernel⟩, by decide⟩, lw_gm 820 (by decide +kernel) rfl, lw_gm 821 (by decide +kernel) rfl, _, _, rfl⟩
theorem lc_X2_52 : xlS RX2 52 yX1_bit cX1_bit 1 (some .int) 1 := ⟨⟨lw_gm 845 (by decide +kernel) rfl, lw_gm 106 (by decide +kernel) rfl, lw_gm 515 (by decide +kernel) rfl, ⟨by decide, by decide, by decide +kernel⟩, by decide⟩, lw_gm 514 (by decide +kernel) rfl⟩
theorem lc_X2_55 : xlV RX2 55 yX2_setsOf cX2_setsOf 2 (some .int) 1 1 := ⟨⟨lw_gm 840 (by decide +kernel) rfl, lw_gm 112 (by decide +kernel) rfl, lw_gm 843 (by decide +kernel) rfl, ⟨by decide, by decide, by decide +kernel⟩, by decide⟩, lw_gm 841 (by decide +kernel) rfl, lw_gm 842 (by decide +kernel) rfl, _, _, rfl⟩
theorem lc_X2_58 : xlS RX2 58 yX1_within cX1_within 3 (some .boolean) 3 := ⟨⟨lw_gm 850 (by decide +kernel) rfl, lw_gm 106 (by decide +kernel) rfl, lw_gm 518 (by decide +kernel) rfl, ⟨by decide, by decide, by decide +kernel⟩, by decide⟩, lw_gm 517 (by decide +kernel) rfl⟩
theorem lc_X2_62 : xlV RX2 62 yX2_arrange cX2_arrange 5 none 2 1 := ⟨⟨lw_gm 851 (by decide +kernel) rfl, lw_gm 112 (by decide +kernel) rfl, lw_gm 854 (by decide +kernel) rfl, ⟨by decide, by decide, by decide +kernel⟩, by decide⟩, lw_gm 853 (by decide +kernel) rfl, lw_gm 15 (by decide +kernel) rfl, _, _, rfl⟩
theorem lc_X2_73 : xlV RX2 73 yX0_isRuled cX0_isRuled 2 (some .boolean) 1 0 := ⟨⟨lw_gm 883 (by decide +kernel) rfl, lw_gm 105 (by decide +kernel) rfl, lw_gm 886 (by decide +kernel) rfl, ⟨by decide, by decide, by decide +kernel⟩, by decide⟩, lw_gm 884 (by decide +kernel) rfl, lw_gm 885 (by decide +kernel) rfl, _, _, rfl⟩
theorem lc_X2_77 : xlV RX2 77 yX2_layLever cX2_layLever 9 (some .boolean) 3 1 := ⟨⟨lw_gm 888 (by decide +kernel) rfl, lw_gm 112 (by decide +kernel) rfl, lw_gm 891 (by decide +kernel) rfl, ⟨by decide, by decide, by decide +kernel⟩, by decide⟩, lw_gm 890 (by decide +kernel) rfl, lw_gm 17 (by decide +kernel) rfl, _, _, rfl⟩
theorem lc_X2_83 : xlV RX2 83 yX2_layOffice cX2_layOffice 7 (some .boolean) 2 1 := ⟨⟨lw_gm 902 (by decide +kernel) rfl, lw_gm 112 (by decide +kernel) rfl, lw_gm 905 (by decide +kernel) rfl, ⟨by decide, by decide, by decide +kernel⟩, by decide⟩, lw_gm 904 (by decide +kernel) rfl, lw_gm 18 (by decide +kernel) rfl, _, _, rfl⟩
theorem lc_X2_87 : xlS RX2 87 yX1_put cX1_put 3 none 3 := ⟨⟨lw_gm 855 (by decide +kernel) rfl, lw_gm 106 (by decide +kernel) rfl, lw_gm 527 (by decide +kernel) rfl, ⟨by decide, by decide, by decide +kernel⟩, by decide⟩, lw_gm 526 (by decide +kernel) rfl⟩
theorem lc_X2_97 : xlS RX2 97 yX1_has cX1_has 2 (some .boolean) 2 := ⟨⟨lw_gm 856 (by decide +kernel) rfl, lw_gm 106 (by decide +kernel) rfl, lw_gm 858 (by decide +kernel) rfl, ⟨by decide, by decide, by decide +kernel⟩, by decide⟩, lw_gm 857 (by decide +kernel) rfl⟩
def P_X2_low  (x1 : Int32)   (M : xM) : Int32 :=
  (P_X1_at 37 16 x1 M)
set_option maxRecDepth 100000 in
set_option maxHeartbeats 4000000 in
theorem w_X2_low {l : Launch} (x1 : Int32)     (M : xM)  : AW SC l RX2 cX2_low 2 (some .int) 1 ki (some (P_X2_low x1  M, M)) 0 [some (xr 6), some (xi x1)] [] M := by
  unfold P_X2_low
  refine A_aload_n dX2_low_0 rfl ?_
  refine A_getr lf_X2_26 rfl rfl dX2_low_1 ?_
  refine A_iload_n dX2_low_4 rfl ?_
  refine A_callSp (a_X1_at (S := SC) (l := l) _ _ _ _ rfl) lc_X2_40 rfl (by decide) (Nat.le_of_ble_eq_true rfl) rfl dX2_low_5 ?_
  exact A_iret rfl dX2_low_8
theorem a_X2_low {l : Launch}  (x1 : Int32) (M : xM)  : AM SC l yX2_low cX2_low 2 (some .int) 1 ki [xr 6, xi x1] M (some (P_X2_low  x1  M, M)) :=
  AM.of (L0 := [some (xr 6), some (xi x1)]) (w_X2_low (l := l) x1  M ) (by decide +kernel) rfl (Nat.le_of_ble_eq_true rfl) ⟨rfl, rfl, trivial⟩
def P_X2_high  (x1 : Int32)   (M : xM) : Int32 :=
  (P_X1_at 38 16 x1 M)
set_option maxRecDepth 100000 in
set_option maxHeartbeats 4000000 in
theorem w_X2_high {l : Launch} (x1 : Int32)     (M : xM)  : AW SC l RX2 cX2_high 2 (some .int) 1 ki (some (P_X2_high x1  M, M)) 0 [some (xr 6), some (xi x1)] [] M := by
  unfold P_X2_high
  refine A_aload_n dX2_high_0 rfl ?_
  refine A_getr lf_X2_29 rfl rfl dX2_high_1 ?_
  refine A_iload_n dX2_high_4 rfl ?_
  refine A_callSp (a_X1_at (S := SC) (l := l) _ _ _ _ rfl) lc_X2_40 rfl (by decide) (Nat.le_of_ble_eq_true rfl) rfl dX2_high_5 ?_
  exact A_iret rfl dX2_high_8
theorem a_X2_high {l : Launch}  (x1 : Int32) (M : xM)  : AM SC l yX2_high cX2_high 2 (some .int) 1 ki [xr 6, xi x1] M (some (P_X2_high  x1  M, M)) :=
  AM.of (L0 := [some (xr 6), some (xi x1)]) (w_X2_high (l := l) x1  M ) (by decide +kernel) rfl (Nat.le_of_ble_eq_true rfl) ⟨rfl, rfl, trivial⟩
def P_X2_setsOf  (x1 : Int32)   (M : xM) : Int32 :=
  (P_X1_bit (P_X5_faultsOf x1 M) M)
set_option maxRecDepth 100000 in
set_option maxHeartbeats 4000000 in
theorem w_X2_setsOf {l : Launch} (x1 : Int32)     (M : xM)  : AW SC l RX2 cX2_setsOf 2 (some .int) 2 ki (some (P_X2_setsOf x1  M, M)) 0 [some (xr 6), some (xi x1)] [] M := by
  unfold P_X2_setsOf
  refine A_aload_n dX2_setsOf_0 rfl ?_
  refine A_getr lf_X2_36 rfl rfl dX2_setsOf_1 ?_
  refine A_iload_n dX2_setsOf_4 rfl ?_
  refine A_callVp (a_X5_faultsOf (l := l) _ _ ) lc_X2_46 rfl rfl (by decide) (Nat.le_of_ble_eq_true rfl) rfl dX2_setsOf_5 ?_
  refine A_callSp (a_X1_bit (S := SC) (l := l) _ _ ) lc_X2_52 rfl (by decide) (Nat.le_of_ble_eq_true rfl) rfl dX2_setsOf_8 ?_
  exact A_iret rfl dX2_setsOf_11
theorem a_X2_setsOf {l : Launch}  (x1 : Int32) (M : xM)  : AM SC l yX2_setsOf cX2_setsOf 2 (some .int) 2 ki [xr 6, xi x1] M (some (P_X2_setsOf  x1  M, M)) :=
  AM.of (L0 := [some (xr 6), some (xi x1)]) (w_X2_setsOf (l := l) x1  M ) (by decide +kernel) rfl (Nat.le_of_ble_eq_true rfl) ⟨rfl, rfl, trivial⟩
def F_X2_arrangeFault  (x1 : Int32) (x2 : Int32) (x3 : Int32)   (M : xM) : Option (xM) :=
  (if x1 = (0 : Int32) then
  (F_X1_put 35 16 x2 (jmin (P_X1_at 35 16 x2 M) (P_X5_wheel x3 M)) M).bind fun q1 =>
  some q1
  else
  (if x1 = (1 : Int32) then
  (F_X1_swap 33 16 x2 x3 M).bind fun q2 =>
  some q2
  else
  (if x1 = (2 : Int32) then
  some (xset M 6 8 ((M 6 8) ||| (P_X1_bit x2 M)))
  else
  (if x1 = (3 : Int32) then
  (F_X1_put 34 16 x2 x3 M).bind fun q3 =>
  some q3
  else
  some (xset M 6 9 ((M 6 9) ||| (P_X1_bit x2 M)))))))
set_option maxRecDepth 100000 in
set_option maxHeartbeats 4000000 in
theorem w_X2_arrangeFault {l : Launch} (x1 : Int32) (x2 : Int32) (x3 : Int32)     (M : xM)  : AW SC l RX2 cX2_arrangeFault 4 none 2 kv (F_X2_arrangeFault x1 x2 x3  M) 0 [some (xr 6), some (xi x1), some (xi x2), some (xi x3)] [] M := by
  unfold F_X2_arrangeFault
  refine A_iload_n dX2_arrangeFault_0 rfl ?_
  refine AW.ite (fun e => ?_) (fun e0 => ?_)
  · refine A_tableIn (off := 31) (tgt := 32) dX2_arrangeFault_1 (by rw [e]; decide) (by rw [e]; decide) (by rw [e]; rfl) (by decide) ?_
    refine A_aload_n dX2_arrangeFault_32 rfl ?_
    refine A_getr lf_X2_20 rfl rfl dX2_arrangeFault_33 ?_
    refine A_iload_n dX2_arrangeFault_36 rfl ?_
    refine A_aload_n dX2_arrangeFault_37 rfl ?_
    refine A_getr lf_X2_20 rfl rfl dX2_arrangeFault_38 ?_
    refine A_iload_n dX2_arrangeFault_41 rfl ?_
    refine A_callSp (a_X1_at (S := SC) (l := l) _ _ _ _ rfl) lc_X2_40 rfl (by decide) (Nat.le_of_ble_eq_true rfl) rfl dX2_arrangeFault_42 ?_
    refine A_iload_n dX2_arrangeFault_45 rfl ?_
    refine A_callSp (a_X5_wheel (l := l) _ _ ) lc_X2_114 rfl (by decide) (Nat.le_of_ble_eq_true rfl) rfl dX2_arrangeFault_46 ?_
    refine A_jmin lc_X2_117 (by decide) (Nat.le_of_ble_eq_true rfl) dX2_arrangeFault_49 ?_
    refine A_callSv (a_X1_put (S := SC) (l := l) _ _ _ _ _ rfl) lc_X2_87 rfl (by decide) (Nat.le_of_ble_eq_true rfl) rfl dX2_arrangeFault_52 (fun q1 hq1 => ?_)
    refine A_goto (tgt := 111) dX2_arrangeFault_55 (by decide) ?_
    exact A_vret rfl dX2_arrangeFault_111
  · refine AW.ite (fun e => ?_) (fun e1 => ?_)
    · refine A_tableIn (off := 57) (tgt := 58) dX2_arrangeFault_1 (by rw [e]; decide) (by rw [e]; decide) (by rw [e]; rfl) (by decide) ?_
      refine A_aload_n dX2_arrangeFault_58 rfl ?_
      refine A_getr lf_X2_11 rfl rfl dX2_arrangeFault_59 ?_
      refine A_iload_n dX2_arrangeFault_62 rfl ?_
      refine A_iload_n dX2_arrangeFault_63 rfl ?_
      refine A_callSv (a_X1_swap (S := SC) (l := l) _ _ _ _ _ rfl) lc_X2_122 rfl (by decide) (Nat.le_of_ble_eq_true rfl) rfl dX2_arrangeFault_64 (fun q2 hq2 => ?_)
      refine A_goto (tgt := 111) dX2_arrangeFault_67 (by decide) ?_
      exact A_vret rfl dX2_arrangeFault_111
    · refine AW.ite (fun e => ?_) (fun e2 => ?_)
      · refine A_tableIn (off := 69) (tgt := 70) dX2_arrangeFault_1 (by rw [e]; decide) (by rw [e]; decide) (by rw [e]; rfl) (by decide) ?_
        refine A_aload_n dX2_arrangeFault_70 rfl ?_
        refine A_dup dX2_arrangeFault_71 rfl ?_
        refine A_geti lf_X2_91 rfl rfl dX2_arrangeFault_72 ?_
        refine A_iload_n dX2_arrangeFault_75 rfl ?_
        refine A_callSp (a_X1_bit (S := SC) (l := l) _ _ ) lc_X2_52 rfl (by decide) (Nat.le_of_ble_eq_true rfl) rfl dX2_arrangeFault_76 ?_
        refine A_ior dX2_arrangeFault_79 ?_
        refine A_puti lf_X2_91 rfl rfl dX2_arrangeFault_80 ?_
        refine A_goto (tgt := 111) dX2_arrangeFault_83 (by decide) ?_
        exact A_vret rfl dX2_arrangeFault_111
      · refine AW.ite (fun e => ?_) (fun e3 => ?_)
        · refine A_tableIn (off := 85) (tgt := 86) dX2_arrangeFault_1 (by rw [e]; decide) (by rw [e]; decide) (by rw [e]; rfl) (by decide) ?_
          refine A_aload_n dX2_arrangeFault_86 rfl ?_
          refine A_getr lf_X2_17 rfl rfl dX2_arrangeFault_87 ?_
          refine A_iload_n dX2_arrangeFault_90 rfl ?_
          refine A_iload_n dX2_arrangeFault_91 rfl ?_
          refine A_callSv (a_X1_put (S := SC) (l := l) _ _ _ _ _ rfl) lc_X2_87 rfl (by decide) (Nat.le_of_ble_eq_true rfl) rfl dX2_arrangeFault_92 (fun q3 hq3 => ?_)
          refine A_goto (tgt := 111) dX2_arrangeFault_95 (by decide) ?_
          exact A_vret rfl dX2_arrangeFault_111
        · refine A_tableOut (tgt := 98) dX2_arrangeFault_1 (by have z0 := xne (k := 0) (by decide) e0; have z1 := xne (k := 1) (by decide) e1; have z2 := xne (k := 2) (by decide) e2; have z3 := xne (k := 3) (by decide) e3; omega) (by decide) ?_
          refine A_aload_n dX2_arrangeFault_98 rfl ?_
          refine A_dup dX2_arrangeFault_99 rfl ?_
          refine A_geti lf_X2_94 rfl rfl dX2_arrangeFault_100 ?_
          refine A_iload_n dX2_arrangeFault_103 rfl ?_
          refine A_callSp (a_X1_bit (S := SC) (l := l) _ _ ) lc_X2_52 rfl (by decide) (Nat.le_of_ble_eq_true rfl) rfl dX2_arrangeFault_104 ?_
          refine A_ior dX2_arrangeFault_107 ?_
          refine A_puti lf_X2_94 rfl rfl dX2_arrangeFault_108 ?_
          exact A_vret rfl dX2_arrangeFault_111
theorem a_X2_arrangeFault {l : Launch}  (x1 : Int32) (x2 : Int32) (x3 : Int32) (M : xM)  : AM SC l yX2_arrangeFault cX2_arrangeFault 4 none 2 kv [xr 6, xi x1, xi x2, xi x3] M (F_X2_arrangeFault  x1 x2 x3  M) :=
  AM.of (L0 := [some (xr 6), some (xi x1), some (xi x2), some (xi x3)]) (w_X2_arrangeFault (l := l) x1 x2 x3  M ) (by decide +kernel) rfl (Nat.le_of_ble_eq_true rfl) ⟨rfl, rfl, rfl, rfl, trivial⟩
def F_X2_arrange_b110 (fu : Nat)  (x1 : Int32) (x2 : Int32) (k55 : Int32 → xM → Option (xM)) (x3 : Int32) (M : xM) : Option (xM) :=
  k55 (x3 + (1 : Int32)) M
set_option maxRecDepth 100000 in
set_option maxHeartbeats 4000000 in
theorem a_X2_arrange_b110 {l : Launch} (fu : Nat) (x1 : Int32) (x2 : Int32)  {k55 : Int32 → xM → Option (xM)} (hk55 : ∀ (b0 : Int32) (M : xM), AW SC l RX2 cX2_arrange 5 none 3 kv (k55 b0 M) 55 [some (xr 6), some (xi x1), some (xi x2), some (xi b0), none] [] M) (x3 : Int32) (M : xM)  : AW SC l RX2 cX2_arrange 5 none 3 kv (F_X2_arrange_b110 fu x1 x2 k55 x3 M) 110 [some (xr 6), some (xi x1), some (xi x2), some (xi x3), none] [] M := by
  unfold F_X2_arrange_b110
  refine A_iinc dX2_arrange_110 rfl oI_1 (Nat.le_of_ble_eq_true rfl) rfl ?_
  refine A_goto (tgt := 55) dX2_arrange_113 (by decide) ?_
  exact (hk55 _ _).sub ⟨rfl, rfl, rfl, rfl, trivial⟩
def F_X2_arrange_b55 (fu : Nat)  (x1 : Int32) (x2 : Int32)  : Nat → Int32 → xM → Option (xM)
  | 0, _, _ => none
  | n + 1, x3, M =>
    (if (P_X5_faultsOf x1 M) ≤ x3 then
    some M
    else
    (if (P_X1_has x2 x3 M) = 0 then
    F_X2_arrange_b110 fu x1 x2 (F_X2_arrange_b55 fu x1 x2 n) x3 M
    else
    (F_X2_arrangeFault (P_X5_kindOf x1 x3 M) (P_X5_firstOf x1 x3 M) (P_X5_secondOf x1 x3 M) M).bind fun q1 =>
    F_X2_arrange_b110 fu x1 x2 (F_X2_arrange_b55 fu x1 x2 n) x3 q1))
set_option maxRecDepth 100000 in
set_option maxHeartbeats 4000000 in
theorem a_X2_arrange_b55 {l : Launch} (fu : Nat) (x1 : Int32) (x2 : Int32)    : ∀ (n : Nat) (x3 : Int32) (M : xM), AW SC l RX2 cX2_arrange 5 none 3 kv (F_X2_arrange_b55 fu x1 x2 n x3 M) 55 [some (xr 6), some (xi x1), some (xi x2), some (xi x3), none] [] M := by
  intro n
  induction n with
  | zero =>
    intro x3 M
    exact AW.none
  | succ n ih =>
    intro x3 M
    rw [F_X2_arrange_b55]
    refine A_iload_n dX2_arrange_55 rfl ?_
    refine A_aload_n dX2_arrange_56 rfl ?_
    refine A_getr lf_X2_36 rfl rfl dX2_arrange_57 ?_
    refine A_iload_n dX2_arrange_60 rfl ?_
    refine A_callVp (a_X5_faultsOf (l := l) _ _ ) lc_X2_46 rfl rfl (by decide) (Nat.le_of_ble_eq_true rfl) rfl dX2_arrange_61 ?_
    refine A_icmp_ge (tgt := 116) dX2_arrange_64 (by decide) (fun _ => ?_) (fun _ => ?_)
    · exact A_vret rfl dX2_arrange_116
    · refine A_iload_n dX2_arrange_67 rfl ?_
      refine A_iload_n dX2_arrange_68 rfl ?_
      refine A_callSp (a_X1_has (S := SC) (l := l) _ _ _ ) lc_X2_97 rfl (by decide) (Nat.le_of_ble_eq_true rfl) rfl dX2_arrange_69 ?_
      refine A_if_eq (tgt := 110) dX2_arrange_72 (by decide) (fun _ => ?_) (fun _ => ?_)
      · exact (a_X2_arrange_b110 (l := l) fu x1 x2 ih _ _ ).sub ⟨rfl, rfl, rfl, rfl, trivial⟩
      · refine A_aload_n dX2_arrange_75 rfl ?_
        refine A_getr lf_X2_36 rfl rfl dX2_arrange_76 ?_
        refine A_iload_n dX2_arrange_79 rfl ?_
        refine A_iload_n dX2_arrange_80 rfl ?_
        refine A_callVp (a_X5_firstOf (l := l) _ _ _ ) lc_X2_100 rfl rfl (by decide) (Nat.le_of_ble_eq_true rfl) rfl dX2_arrange_81 ?_
        refine A_istore dX2_arrange_84 (Nat.le_of_ble_eq_true rfl) rfl ?_
        refine A_aload_n dX2_arrange_86 rfl ?_
        refine A_aload_n dX2_arrange_87 rfl ?_
        refine A_getr lf_X2_36 rfl rfl dX2_arrange_88 ?_
        refine A_iload_n dX2_arrange_91 rfl ?_
        refine A_iload_n dX2_arrange_92 rfl ?_
        refine A_callVp (a_X5_kindOf (l := l) _ _ _ ) lc_X2_104 rfl rfl (by decide) (Nat.le_of_ble_eq_true rfl) rfl dX2_arrange_93 ?_
        refine A_iload dX2_arrange_96 rfl ?_
        refine A_aload_n dX2_arrange_98 rfl ?_
        refine A_getr lf_X2_36 rfl rfl dX2_arrange_99 ?_
        refine A_iload_n dX2_arrange_102 rfl ?_
        refine A_iload_n dX2_arrange_103 rfl ?_
        refine A_callVp (a_X5_secondOf (l := l) _ _ _ ) lc_X2_107 rfl rfl (by decide) (Nat.le_of_ble_eq_true rfl) rfl dX2_arrange_104 ?_
        refine A_callVv (a_X2_arrangeFault (l := l) _ _ _ _ ) lc_X2_110 rfl rfl (by decide) (Nat.le_of_ble_eq_true rfl) rfl dX2_arrange_107 (fun q1 hq1 => ?_)
        exact (a_X2_arrange_b110 (l := l) fu x1 x2 ih _ _ ).sub ⟨rfl, rfl, rfl, rfl, trivial⟩
def F_X2_arrange_b2 (fu : Nat)  (x1 : Int32) (x2 : Int32)  : Nat → Int32 → xM → Option (xM)
  | 0, _, _ => none
  | n + 1, x3, M =>
    (if (16 : Int32) ≤ x3 then
    F_X2_arrange_b55 fu x1 x2 fu (0 : Int32) (xset (xset M 6 8 (0 : Int32)) 6 9 (0 : Int32))
    else
    (F_X1_put 33 16 x3 x3 M).bind fun q1 =>
    (F_X1_put 34 16 x3 (0 : Int32) q1).bind fun q2 =>
    (F_X1_put 35 16 x3 (1000 : Int32) q2).bind fun q3 =>
    F_X2_arrange_b2 fu x1 x2 n (x3 + (1 : Int32)) q3)
set_option maxRecDepth 100000 in
set_option maxHeartbeats 4000000 in
theorem a_X2_arrange_b2 {l : Launch} (fu : Nat) (x1 : Int32) (x2 : Int32)    : ∀ (n : Nat) (x3 : Int32) (M : xM), AW SC l RX2 cX2_arrange 5 none 3 kv (F_X2_arrange_b2 fu x1 x2 n x3 M) 2 [some (xr 6), some (xi x1), some (xi x2), some (xi x3), none] [] M := by
  intro n
  induction n with
  | zero =>
    intro x3 M
    exact AW.none
  | succ n ih =>
    intro x3 M
    rw [F_X2_arrange_b2]
    refine A_iload_n dX2_arrange_2 rfl ?_
    refine A_bipush (v := (16 : Int32)) dX2_arrange_3 oB_16 ?_
    refine A_icmp_ge (tgt := 43) dX2_arrange_5 (by decide) (fun _ => ?_) (fun _ => ?_)
    · refine A_aload_n dX2_arrange_43 rfl ?_
      refine A_iconst (v := (0 : Int32)) dX2_arrange_44 oI_0 ?_
      refine A_puti lf_X2_91 rfl rfl dX2_arrange_45 ?_
      refine A_aload_n dX2_arrange_48 rfl ?_
      refine A_iconst (v := (0 : Int32)) dX2_arrange_49 oI_0 ?_
      refine A_puti lf_X2_94 rfl rfl dX2_arrange_50 ?_
      refine A_iconst (v := (0 : Int32)) dX2_arrange_53 oI_0 ?_
      refine A_istore_n dX2_arrange_54 (Nat.le_of_ble_eq_true rfl) rfl ?_
      exact (a_X2_arrange_b55 (l := l) fu x1 x2  fu _ _).sub ⟨rfl, rfl, rfl, rfl, trivial⟩
    · refine A_aload_n dX2_arrange_8 rfl ?_
      refine A_getr lf_X2_11 rfl rfl dX2_arrange_9 ?_
      refine A_iload_n dX2_arrange_12 rfl ?_
      refine A_iload_n dX2_arrange_13 rfl ?_
      refine A_callSv (a_X1_put (S := SC) (l := l) _ _ _ _ _ rfl) lc_X2_87 rfl (by decide) (Nat.le_of_ble_eq_true rfl) rfl dX2_arrange_14 (fun q1 hq1 => ?_)
      refine A_aload_n dX2_arrange_17 rfl ?_
      refine A_getr lf_X2_17 rfl rfl dX2_arrange_18 ?_
      refine A_iload_n dX2_arrange_21 rfl ?_
      refine A_iconst (v := (0 : Int32)) dX2_arrange_22 oI_0 ?_
      refine A_callSv (a_X1_put (S := SC) (l := l) _ _ _ _ _ rfl) lc_X2_87 rfl (by decide) (Nat.le_of_ble_eq_true rfl) rfl dX2_arrange_23 (fun q2 hq2 => ?_)
      refine A_aload_n dX2_arrange_26 rfl ?_
      refine A_getr lf_X2_20 rfl rfl dX2_arrange_27 ?_
      refine A_iload_n dX2_arrange_30 rfl ?_
      refine A_sipush (v := (1000 : Int32)) dX2_arrange_31 oS_1000 ?_
      refine A_callSv (a_X1_put (S := SC) (l := l) _ _ _ _ _ rfl) lc_X2_87 rfl (by decide) (Nat.le_of_ble_eq_true rfl) rfl dX2_arrange_34 (fun q3 hq3 => ?_)
      refine A_iinc dX2_arrange_37 rfl oI_1 (Nat.le_of_ble_eq_true rfl) rfl ?_
      refine A_goto (tgt := 2) dX2_arrange_40 (by decide) ?_
      exact (ih _ _).sub ⟨rfl, rfl, rfl, rfl, trivial⟩
def F_X2_arrange (fu : Nat)  (x1 : Int32) (x2 : Int32)   (M : xM) : Option (xM) :=
  F_X2_arrange_b2 fu x1 x2 fu (0 : Int32) M
set_option maxRecDepth 100000 in
set_option maxHeartbeats 4000000 in
theorem w_X2_arrange {l : Launch} (fu : Nat) (x1 : Int32) (x2 : Int32)     (M : xM)  : AW SC l RX2 cX2_arrange 5 none 3 kv (F_X2_arrange fu x1 x2  M) 0 [some (xr 6), some (xi x1), some (xi x2), none, none] [] M := by
  unfold F_X2_arrange
  refine A_iconst (v := (0 : Int32)) dX2_arrange_0 oI_0 ?_
  refine A_istore_n dX2_arrange_1 (Nat.le_of_ble_eq_true rfl) rfl ?_
  exact (a_X2_arrange_b2 (l := l) fu x1 x2  fu _ _).sub ⟨rfl, rfl, rfl, rfl, trivial⟩
theorem a_X2_arrange {l : Launch} (fu : Nat)  (x1 : Int32) (x2 : Int32) (M : xM)  : AM SC l yX2_arrange cX2_arrange 5 none 3 kv [xr 6, xi x1, xi x2] M (F_X2_arrange fu x1 x2  M) :=
  AM.of (L0 := [some (xr 6), some (xi x1), some (xi x2), none, none]) (w_X2_arrange (l := l) fu x1 x2  M ) (by decide +kernel) rfl (Nat.le_of_ble_eq_true rfl) ⟨rfl, rfl, rfl, trivial⟩
def F_X2_layLever  (x1 : Int32) (x2 : Int32) (x3 : Int32)   (M : xM) : Option (Int32 × xM) :=
  (if (P_X1_has (M 6 8) (P_X1_at 33 16 x2 M) M) = 0 then
  (F_X1_put 37 16 x2 (P_X1_modulo ((P_X5_shownAt x1 (P_X1_at 33 16 x2 M) M) - (P_X1_at 34 16 (P_X1_at 33 16 x2 M) M)) (P_X1_at 35 16 (P_X1_at 33 16 x2 M) M) M) M).bind fun q1 =>
  (F_X1_put 36 16 x2 (P_X1_at 35 16 (P_X1_at 33 16 x2 M) M) q1).bind fun q2 =>
  (if (P_X1_at 35 16 (P_X1_at 33 16 x2 M) M) ≤ (P_X5_shownAt x1 (P_X1_at 33 16 x2 M) M) then
  some ((0 : Int32), q2)
  else
  (if x3 < (P_X1_modulo ((P_X5_shownAt x1 (P_X1_at 33 16 x2 M) M) - (P_X1_at 34 16 (P_X1_at 33 16 x2 M) M)) (P_X1_at 35 16 (P_X1_at 33 16 x2 M) M) M) then
  some ((0 : Int32), q2)
  else
  some ((1 : Int32), q2)))
  else
  (F_X1_put 37 16 x2 (0 : Int32) M).bind fun q3 =>
  (F_X1_put 36 16 x2 (1 : Int32) q3).bind fun q4 =>
  (if (P_X1_modulo (P_X1_at 34 16 (P_X1_at 33 16 x2 M) M) (P_X1_at 35 16 (P_X1_at 33 16 x2 M) M) q4) = (P_X5_shownAt x1 (P_X1_at 33 16 x2 M) M) then
  some ((1 : Int32), q4)
  else
  some ((0 : Int32), q4)))
set_option maxRecDepth 100000 in
set_option maxHeartbeats 4000000 in
theorem w_X2_layLever {l : Launch} (x1 : Int32) (x2 : Int32) (x3 : Int32)     (M : xM)  : AW SC l RX2 cX2_layLever 9 (some .boolean) 2 ki (F_X2_layLever x1 x2 x3  M) 0 [some (xr 6), some (xi x1), some (xi x2), some (xi x3), none, none, none, none, none] [] M := by
  unfold F_X2_layLever
  refine A_aload_n dX2_layLever_0 rfl ?_
  refine A_getr lf_X2_11 rfl rfl dX2_layLever_1 ?_
  refine A_iload_n dX2_layLever_4 rfl ?_
  refine A_callSp (a_X1_at (S := SC) (l := l) _ _ _ _ rfl) lc_X2_40 rfl (by decide) (Nat.le_of_ble_eq_true rfl) rfl dX2_layLever_5 ?_
  refine A_istore dX2_layLever_8 (Nat.le_of_ble_eq_true rfl) rfl ?_
  refine A_aload_n dX2_layLever_10 rfl ?_
  refine A_getr lf_X2_36 rfl rfl dX2_layLever_11 ?_
  refine A_iload_n dX2_layLever_14 rfl ?_
  refine A_iload dX2_layLever_15 rfl ?_
  refine A_callVp (a_X5_shownAt (l := l) _ _ _ ) lc_X2_125 rfl rfl (by decide) (Nat.le_of_ble_eq_true rfl) rfl dX2_layLever_17 ?_
  refine A_istore dX2_layLever_20 (Nat.le_of_ble_eq_true rfl) rfl ?_
  refine A_aload_n dX2_layLever_22 rfl ?_
  refine A_getr lf_X2_20 rfl rfl dX2_layLever_23 ?_
  refine A_iload dX2_layLever_26 rfl ?_
  refine A_callSp (a_X1_at (S := SC) (l := l) _ _ _ _ rfl) lc_X2_40 rfl (by decide) (Nat.le_of_ble_eq_true rfl) rfl dX2_layLever_28 ?_
  refine A_istore dX2_layLever_31 (Nat.le_of_ble_eq_true rfl) rfl ?_
  refine A_aload_n dX2_layLever_33 rfl ?_
  refine A_getr lf_X2_17 rfl rfl dX2_layLever_34 ?_
  refine A_iload dX2_layLever_37 rfl ?_
  refine A_callSp (a_X1_at (S := SC) (l := l) _ _ _ _ rfl) lc_X2_40 rfl (by decide) (Nat.le_of_ble_eq_true rfl) rfl dX2_layLever_39 ?_
  refine A_istore dX2_layLever_42 (Nat.le_of_ble_eq_true rfl) rfl ?_
  refine A_aload_n dX2_layLever_44 rfl ?_
  refine A_geti lf_X2_91 rfl rfl dX2_layLever_45 ?_
  refine A_iload dX2_layLever_48 rfl ?_
  refine A_callSp (a_X1_has (S := SC) (l := l) _ _ _ ) lc_X2_97 rfl (by decide) (Nat.le_of_ble_eq_true rfl) rfl dX2_layLever_50 ?_
  refine A_if_eq (tgt := 92) dX2_layLever_53 (by decide) (fun _ => ?_) (fun _ => ?_)
  · refine A_iload dX2_layLever_92 rfl ?_
    refine A_iload dX2_layLever_94 rfl ?_
    refine A_isub dX2_layLever_96 ?_
    refine A_iload dX2_layLever_97 rfl ?_
    refine A_callSp (a_X1_modulo (S := SC) (l := l) _ _ _ ) lc_X2_128 rfl (by decide) (Nat.le_of_ble_eq_true rfl) rfl dX2_layLever_99 ?_
    refine A_istore dX2_layLever_102 (Nat.le_of_ble_eq_true rfl) rfl ?_
    refine A_aload_n dX2_layLever_104 rfl ?_
    refine A_getr lf_X2_26 rfl rfl dX2_layLever_105 ?_
    refine A_iload_n dX2_layLever_108 rfl ?_
    refine A_iload dX2_layLever_109 rfl ?_
    refine A_callSv (a_X1_put (S := SC) (l := l) _ _ _ _ _ rfl) lc_X2_87 rfl (by decide) (Nat.le_of_ble_eq_true rfl) rfl dX2_layLever_111 (fun q1 hq1 => ?_)
    refine A_aload_n dX2_layLever_114 rfl ?_
    refine A_getr lf_X2_23 rfl rfl dX2_layLever_115 ?_
    refine A_iload_n dX2_layLever_118 rfl ?_
    refine A_iload dX2_layLever_119 rfl ?_
    refine A_callSv (a_X1_put (S := SC) (l := l) _ _ _ _ _ rfl) lc_X2_87 rfl (by decide) (Nat.le_of_ble_eq_true rfl) rfl dX2_layLever_121 (fun q2 hq2 => ?_)
    refine A_iload dX2_layLever_124 rfl ?_
    refine A_iload dX2_layLever_126 rfl ?_
    refine A_icmp_ge (tgt := 141) dX2_layLever_128 (by decide) (fun _ => ?_) (fun _ => ?_)
    · refine A_iconst (v := (0 : Int32)) dX2_layLever_141 oI_0 ?_
      exact A_zret' rfl (Or.inl rfl) dX2_layLever_142
    · refine A_iload dX2_layLever_131 rfl ?_
      refine A_iload_n dX2_layLever_133 rfl ?_
      refine A_icmp_gt (tgt := 141) dX2_layLever_134 (by decide) (fun _ => ?_) (fun _ => ?_)
      · refine A_iconst (v := (0 : Int32)) dX2_layLever_141 oI_0 ?_
        exact A_zret' rfl (Or.inl rfl) dX2_layLever_142
      · refine A_iconst (v := (1 : Int32)) dX2_layLever_137 oI_1 ?_
        refine A_goto (tgt := 142) dX2_layLever_138 (by decide) ?_
        exact A_zret' rfl (Or.inr rfl) dX2_layLever_142
  · refine A_aload_n dX2_layLever_56 rfl ?_
    refine A_getr lf_X2_26 rfl rfl dX2_layLever_57 ?_
    refine A_iload_n dX2_layLever_60 rfl ?_
    refine A_iconst (v := (0 : Int32)) dX2_layLever_61 oI_0 ?_
    refine A_callSv (a_X1_put (S := SC) (l := l) _ _ _ _ _ rfl) lc_X2_87 rfl (by decide) (Nat.le_of_ble_eq_true rfl) rfl dX2_layLever_62 (fun q3 hq3 => ?_)
    refine A_aload_n dX2_layLever_65 rfl ?_
    refine A_getr lf_X2_23 rfl rfl dX2_layLever_66 ?_
    refine A_iload_n dX2_layLever_69 rfl ?_
    refine A_iconst (v := (1 : Int32)) dX2_layLever_70 oI_1 ?_
    refine A_callSv (a_X1_put (S := SC) (l := l) _ _ _ _ _ rfl) lc_X2_87 rfl (by decide) (Nat.le_of_ble_eq_true rfl) rfl dX2_layLever_71 (fun q4 hq4 => ?_)
    refine A_iload dX2_layLever_74 rfl ?_
    refine A_iload dX2_layLever_76 rfl ?_
    refine A_callSp (a_X1_modulo (S := SC) (l := l) _ _ _ ) lc_X2_128 rfl (by decide) (Nat.le_of_ble_eq_true rfl) rfl dX2_layLever_78 ?_
    refine A_iload dX2_layLever_81 rfl ?_
    refine A_icmp_ne (tgt := 90) dX2_layLever_83 (by decide) (fun _ => ?_) (fun _ => ?_)
    · refine A_iconst (v := (1 : Int32)) dX2_layLever_86 oI_1 ?_
      refine A_goto (tgt := 91) dX2_layLever_87 (by decide) ?_
      exact A_zret' rfl (Or.inr rfl) dX2_layLever_91
    · refine A_iconst (v := (0 : Int32)) dX2_layLever_90 oI_0 ?_
      exact A_zret' rfl (Or.inl rfl) dX2_layLever_91
theorem a_X2_layLever {l : Launch}  (x1 : Int32) (x2 : Int32) (x3 : Int32) (M : xM)  : AM SC l yX2_layLever cX2_layLever 9 (some .boolean) 2 ki [xr 6, xi x1, xi x2, xi x3] M (F_X2_layLever  x1 x2 x3  M) :=
  AM.of (L0 := [some (xr 6), some (xi x1), some (xi x2), some (xi x3), none, none, none, none, none]) (w_X2_layLever (l := l) x1 x2 x3  M ) (by decide +kernel) rfl (Nat.le_of_ble_eq_true rfl) ⟨rfl, rfl, rfl, rfl, trivial⟩
def F_X2_layOffice_b51 (fu : Nat)  (x1 : Int32) (x2 : Int32) (k14 : Int32 → Int32 → xM → Option (Int32 × xM)) (x3 : Int32) (x4 : Int32) (M : xM) : Option (Int32 × xM) :=
  k14 x3 (x4 + (1 : Int32)) M
set_option maxRecDepth 100000 in
set_option maxHeartbeats 4000000 in
theorem a_X2_layOffice_b51 {l : Launch} (fu : Nat) (x1 : Int32) (x2 : Int32)  {k14 : Int32 → Int32 → xM → Option (Int32 × xM)} (hk14 : ∀ (b0 : Int32) (b1 : Int32) (M : xM), AW SC l RX2 cX2_layOffice 7 (some .boolean) 2 ki (k14 b0 b1 M) 14 [some (xr 6), some (xi x1), some (xi x2), some (xi b0), some (xi b1), none, none] [] M) (x3 : Int32) (x4 : Int32) (M : xM)  : AW SC l RX2 cX2_layOffice 7 (some .boolean) 2 ki (F_X2_layOffice_b51 fu x1 x2 k14 x3 x4 M) 51 [some (xr 6), some (xi x1), some (xi x2), some (xi x3), some (xi x4), none, none] [] M := by
  unfold F_X2_layOffice_b51
  refine A_iinc dX2_layOffice_51 rfl oI_1 (Nat.le_of_ble_eq_true rfl) rfl ?_
  refine A_goto (tgt := 14) dX2_layOffice_54 (by decide) ?_
  exact (hk14 _ _ _).sub ⟨rfl, rfl, rfl, rfl, rfl, trivial⟩
def F_X2_layOffice_b170 (fu : Nat)  (x1 : Int32) (x2 : Int32) (k81 : Int32 → Int32 → Int32 → xM → Option (Int32 × xM)) (x3 : Int32) (x4 : Int32) (x5 : Int32) (M : xM) : Option (Int32 × xM) :=
  k81 x3 x4 (x5 + (1 : Int32)) M
set_option maxRecDepth 100000 in
set_option maxHeartbeats 4000000 in
theorem a_X2_layOffice_b170 {l : Launch} (fu : Nat) (x1 : Int32) (x2 : Int32)  {k81 : Int32 → Int32 → Int32 → xM → Option (Int32 × xM)} (hk81 : ∀ (b0 : Int32) (b1 : Int32) (b2 : Int32) (M : xM), AW SC l RX2 cX2_layOffice 7 (some .boolean) 2 ki (k81 b0 b1 b2 M) 81 [some (xr 6), some (xi x1), some (xi x2), some (xi b0), some (xi b1), some (xi b2), none] [] M) (x3 : Int32) (x4 : Int32) (x5 : Int32) (M : xM)  : AW SC l RX2 cX2_layOffice 7 (some .boolean) 2 ki (F_X2_layOffice_b170 fu x1 x2 k81 x3 x4 x5 M) 170 [some (xr 6), some (xi x1), some (xi x2), some (xi x3), some (xi x4), some (xi x5), none] [] M := by
  unfold F_X2_layOffice_b170
  refine A_iinc dX2_layOffice_170 rfl oI_1 (Nat.le_of_ble_eq_true rfl) rfl ?_
  refine A_goto (tgt := 81) dX2_layOffice_173 (by decide) ?_
  exact (hk81 _ _ _ _).sub ⟨rfl, rfl, rfl, rfl, rfl, rfl, trivial⟩
def F_X2_layOffice_b135 (fu : Nat)  (x1 : Int32) (x2 : Int32) (k81 : Int32 → Int32 → Int32 → xM → Option (Int32 × xM)) (x3 : Int32) (x4 : Int32) (x5 : Int32) (s0 : Int32) (M : xM) : Option (Int32 × xM) :=
  (F_X1_put 38 16 x5 (((P_X2_low x5 M) + s0) - (P_X1_modulo s0 (P_X1_at 36 16 x5 M) M)) M).bind fun q1 =>
  F_X2_layOffice_b170 fu x1 x2 k81 x3 x4 x5 q1
set_option maxRecDepth 100000 in
set_option maxHeartbeats 4000000 in
theorem a_X2_layOffice_b135 {l : Launch} (fu : Nat) (x1 : Int32) (x2 : Int32)  {k81 : Int32 → Int32 → Int32 → xM → Option (Int32 × xM)} (hk81 : ∀ (b0 : Int32) (b1 : Int32) (b2 : Int32) (M : xM), AW SC l RX2 cX2_layOffice 7 (some .boolean) 2 ki (k81 b0 b1 b2 M) 81 [some (xr 6), some (xi x1), some (xi x2), some (xi b0), some (xi b1), some (xi b2), none] [] M) (x3 : Int32) (x4 : Int32) (x5 : Int32) (s0 : Int32) (M : xM)  : AW SC l RX2 cX2_layOffice 7 (some .boolean) 2 ki (F_X2_layOffice_b135 fu x1 x2 k81 x3 x4 x5 s0 M) 135 [some (xr 6), some (xi x1), some (xi x2), some (xi x3), some (xi x4), some (xi x5), none] [xi s0] M := by
  unfold F_X2_layOffice_b135
  refine A_istore dX2_layOffice_135 (Nat.le_of_ble_eq_true rfl) rfl ?_
  refine A_aload_n dX2_layOffice_137 rfl ?_
  refine A_getr lf_X2_29 rfl rfl dX2_layOffice_138 ?_
  refine A_iload dX2_layOffice_141 rfl ?_
  refine A_aload_n dX2_layOffice_143 rfl ?_
  refine A_iload dX2_layOffice_144 rfl ?_
  refine A_callVp (a_X2_low (l := l) _ _ ) lc_X2_137 rfl rfl (by decide) (Nat.le_of_ble_eq_true rfl) rfl dX2_layOffice_146 ?_
  refine A_iload dX2_layOffice_149 rfl ?_
  refine A_iadd dX2_layOffice_151 ?_
  refine A_iload dX2_layOffice_152 rfl ?_
  refine A_aload_n dX2_layOffice_154 rfl ?_
  refine A_getr lf_X2_23 rfl rfl dX2_layOffice_155 ?_
  refine A_iload dX2_layOffice_158 rfl ?_
  refine A_callSp (a_X1_at (S := SC) (l := l) _ _ _ _ rfl) lc_X2_40 rfl (by decide) (Nat.le_of_ble_eq_true rfl) rfl dX2_layOffice_160 ?_
  refine A_callSp (a_X1_modulo (S := SC) (l := l) _ _ _ ) lc_X2_128 rfl (by decide) (Nat.le_of_ble_eq_true rfl) rfl dX2_layOffice_163 ?_
  refine A_isub dX2_layOffice_166 ?_
  refine A_callSv (a_X1_put (S := SC) (l := l) _ _ _ _ _ rfl) lc_X2_87 rfl (by decide) (Nat.le_of_ble_eq_true rfl) rfl dX2_layOffice_167 (fun q1 hq1 => ?_)
  exact (a_X2_layOffice_b170 (l := l) fu x1 x2 hk81 _ _ _ _ ).sub ⟨rfl, rfl, rfl, rfl, rfl, rfl, trivial⟩
def F_X2_layOffice_b81 (fu : Nat)  (x1 : Int32) (x2 : Int32)  : Nat → Int32 → Int32 → Int32 → xM → Option (Int32 × xM)
  | 0, _, _, _, _ => none
  | n + 1, x3, x4, x5, M =>
    (if (M 1 0) ≤ x5 then
    some ((1 : Int32), M)
    else
    (if (P_X1_has (P_X0_leversOf x1 M) x5 M) = 0 then
    F_X2_layOffice_b170 fu x1 x2 (F_X2_layOffice_b81 fu x1 x2 n) x3 x4 x5 M
    else
    (if x4 = 0 then
    F_X2_layOffice_b135 fu x1 x2 (F_X2_layOffice_b81 fu x1 x2 n) x3 x4 x5 (jmin (x2 - (P_X2_low x5 M)) x3) M
    else
    F_X2_layOffice_b135 fu x1 x2 (F_X2_layOffice_b81 fu x1 x2 n) x3 x4 x5 (x2 - (P_X2_low x5 M)) M)))
set_option maxRecDepth 100000 in
set_option maxHeartbeats 4000000 in
theorem a_X2_layOffice_b81 {l : Launch} (fu : Nat) (x1 : Int32) (x2 : Int32)    : ∀ (n : Nat) (x3 : Int32) (x4 : Int32) (x5 : Int32) (M : xM), AW SC l RX2 cX2_layOffice 7 (some .boolean) 2 ki (F_X2_layOffice_b81 fu x1 x2 n x3 x4 x5 M) 81 [some (xr 6), some (xi x1), some (xi x2), some (xi x3), some (xi x4), some (xi x5), none] [] M := by
  intro n
  induction n with
  | zero =>
    intro x3 x4 x5 M
    exact AW.none
  | succ n ih =>
    intro x3 x4 x5 M
    rw [F_X2_layOffice_b81]
    refine A_iload dX2_layOffice_81 rfl ?_
    refine A_aload_n dX2_layOffice_83 rfl ?_
    refine A_getr lf_X2_32 rfl rfl dX2_layOffice_84 ?_
    refine A_geti lf_X2_69 rfl rfl dX2_layOffice_87 ?_
    refine A_icmp_ge (tgt := 176) dX2_layOffice_90 (by decide) (fun _ => ?_) (fun _ => ?_)
    · refine A_iconst (v := (1 : Int32)) dX2_layOffice_176 oI_1 ?_
      exact A_zret' rfl (Or.inr rfl) dX2_layOffice_177
    · refine A_aload_n dX2_layOffice_93 rfl ?_
      refine A_getr lf_X2_32 rfl rfl dX2_layOffice_94 ?_
      refine A_iload_n dX2_layOffice_97 rfl ?_
      refine A_callVp (a_X0_leversOf (l := l) _ _ ) lc_X2_134 rfl rfl (by decide) (Nat.le_of_ble_eq_true rfl) rfl dX2_layOffice_98 ?_
      refine A_iload dX2_layOffice_101 rfl ?_
      refine A_callSp (a_X1_has (S := SC) (l := l) _ _ _ ) lc_X2_97 rfl (by decide) (Nat.le_of_ble_eq_true rfl) rfl dX2_layOffice_103 ?_
      refine A_if_eq (tgt := 170) dX2_layOffice_106 (by decide) (fun _ => ?_) (fun _ => ?_)
      · exact (a_X2_layOffice_b170 (l := l) fu x1 x2 ih _ _ _ _ ).sub ⟨rfl, rfl, rfl, rfl, rfl, rfl, trivial⟩
      · refine A_iload_n dX2_layOffice_109 rfl ?_
        refine A_aload_n dX2_layOffice_110 rfl ?_
        refine A_iload dX2_layOffice_111 rfl ?_
        refine A_callVp (a_X2_low (l := l) _ _ ) lc_X2_137 rfl rfl (by decide) (Nat.le_of_ble_eq_true rfl) rfl dX2_layOffice_113 ?_
        refine A_isub dX2_layOffice_116 ?_
        refine A_istore dX2_layOffice_117 (Nat.le_of_ble_eq_true rfl) rfl ?_
        refine A_iload dX2_layOffice_119 rfl ?_
        refine A_if_eq (tgt := 129) dX2_layOffice_121 (by decide) (fun _ => ?_) (fun _ => ?_)
        · refine A_iload dX2_layOffice_129 rfl ?_
          refine A_iload_n dX2_layOffice_131 rfl ?_
          refine A_jmin lc_X2_117 (by decide) (Nat.le_of_ble_eq_true rfl) dX2_layOffice_132 ?_
          exact (a_X2_layOffice_b135 (l := l) fu x1 x2 ih _ _ _ _ _ ).sub ⟨rfl, rfl, rfl, rfl, rfl, rfl, trivial⟩
        · refine A_iload dX2_layOffice_124 rfl ?_
          refine A_goto (tgt := 135) dX2_layOffice_126 (by decide) ?_
          exact (a_X2_layOffice_b135 (l := l) fu x1 x2 ih _ _ _ _ _ ).sub ⟨rfl, rfl, rfl, rfl, rfl, rfl, trivial⟩
def F_X2_layOffice_b78 (fu : Nat)  (x1 : Int32) (x2 : Int32)  (x3 : Int32) (x4 : Int32) (M : xM) : Option (Int32 × xM) :=
  F_X2_layOffice_b81 fu x1 x2 fu x3 x4 (0 : Int32) M
set_option maxRecDepth 100000 in
set_option maxHeartbeats 4000000 in
theorem a_X2_layOffice_b78 {l : Launch} (fu : Nat) (x1 : Int32) (x2 : Int32)    (x3 : Int32) (x4 : Int32) (M : xM)  : AW SC l RX2 cX2_layOffice 7 (some .boolean) 2 ki (F_X2_layOffice_b78 fu x1 x2 x3 x4 M) 78 [some (xr 6), some (xi x1), some (xi x2), some (xi x3), some (xi x4), none, none] [] M := by
  unfold F_X2_layOffice_b78
  refine A_iconst (v := (0 : Int32)) dX2_layOffice_78 oI_0 ?_
  refine A_istore dX2_layOffice_79 (Nat.le_of_ble_eq_true rfl) rfl ?_
  exact (a_X2_layOffice_b81 (l := l) fu x1 x2  fu _ _ _ _).sub ⟨rfl, rfl, rfl, rfl, rfl, rfl, trivial⟩
def F_X2_layOffice_b14 (fu : Nat)  (x1 : Int32) (x2 : Int32)  : Nat → Int32 → Int32 → xM → Option (Int32 × xM)
  | 0, _, _, _ => none
  | n + 1, x3, x4, M =>
    (if (M 1 0) ≤ x4 then
    (if (P_X1_has (M 6 9) x1 M) = 0 then
    (if 0 ≤ x3 then
    F_X2_layOffice_b78 fu x1 x2 x3 (P_X1_has (M 6 9) x1 M) M
    else
    some ((0 : Int32), M))
    else
    F_X2_layOffice_b78 fu x1 x2 x3 (P_X1_has (M 6 9) x1 M) M)
    else
    (if (P_X1_has (P_X0_leversOf x1 M) x4 M) = 0 then
    F_X2_layOffice_b51 fu x1 x2 (F_X2_layOffice_b14 fu x1 x2 n) x3 x4 M
    else
    F_X2_layOffice_b51 fu x1 x2 (F_X2_layOffice_b14 fu x1 x2 n) (x3 - (P_X2_low x4 M)) x4 M))
set_option maxRecDepth 100000 in
set_option maxHeartbeats 4000000 in
theorem a_X2_layOffice_b14 {l : Launch} (fu : Nat) (x1 : Int32) (x2 : Int32)    : ∀ (n : Nat) (x3 : Int32) (x4 : Int32) (M : xM), AW SC l RX2 cX2_layOffice 7 (some .boolean) 2 ki (F_X2_layOffice_b14 fu x1 x2 n x3 x4 M) 14 [some (xr 6), some (xi x1), some (xi x2), some (xi x3), some (xi x4), none, none] [] M := by
  intro n
  induction n with
  | zero =>
    intro x3 x4 M
    exact AW.none
  | succ n ih =>
    intro x3 x4 M
    rw [F_X2_layOffice_b14]
    refine A_iload dX2_layOffice_14 rfl ?_
    refine A_aload_n dX2_layOffice_16 rfl ?_
    refine A_getr lf_X2_32 rfl rfl dX2_layOffice_17 ?_
    refine A_geti lf_X2_69 rfl rfl dX2_layOffice_20 ?_
    refine A_icmp_ge (tgt := 57) dX2_layOffice_23 (by decide) (fun _ => ?_) (fun _ => ?_)
    · refine A_aload_n dX2_layOffice_57 rfl ?_
      refine A_geti lf_X2_94 rfl rfl dX2_layOffice_58 ?_
      refine A_iload_n dX2_layOffice_61 rfl ?_
      refine A_callSp (a_X1_has (S := SC) (l := l) _ _ _ ) lc_X2_97 rfl (by decide) (Nat.le_of_ble_eq_true rfl) rfl dX2_layOffice_62 ?_
      refine A_istore dX2_layOffice_65 (Nat.le_of_ble_eq_true rfl) rfl ?_
      refine A_iload dX2_layOffice_67 rfl ?_
      refine A_if_ne (tgt := 78) dX2_layOffice_69 (by decide) (fun _ => ?_) (fun _ => ?_)
      · refine A_iload_n dX2_layOffice_72 rfl ?_
        refine A_if_ge (tgt := 78) dX2_layOffice_73 (by decide) (fun _ => ?_) (fun _ => ?_)
        · exact (a_X2_layOffice_b78 (l := l) fu x1 x2  _ _ _ ).sub ⟨rfl, rfl, rfl, rfl, rfl, trivial⟩
        · refine A_iconst (v := (0 : Int32)) dX2_layOffice_76 oI_0 ?_
          exact A_zret' rfl (Or.inl rfl) dX2_layOffice_77
      · exact (a_X2_layOffice_b78 (l := l) fu x1 x2  _ _ _ ).sub ⟨rfl, rfl, rfl, rfl, rfl, trivial⟩
    · refine A_aload_n dX2_layOffice_26 rfl ?_
      refine A_getr lf_X2_32 rfl rfl dX2_layOffice_27 ?_
      refine A_iload_n dX2_layOffice_30 rfl ?_
      refine A_callVp (a_X0_leversOf (l := l) _ _ ) lc_X2_134 rfl rfl (by decide) (Nat.le_of_ble_eq_true rfl) rfl dX2_layOffice_31 ?_
      refine A_iload dX2_layOffice_34 rfl ?_
      refine A_callSp (a_X1_has (S := SC) (l := l) _ _ _ ) lc_X2_97 rfl (by decide) (Nat.le_of_ble_eq_true rfl) rfl dX2_layOffice_36 ?_
      refine A_if_eq (tgt := 51) dX2_layOffice_39 (by decide) (fun _ => ?_) (fun _ => ?_)
      · exact (a_X2_layOffice_b51 (l := l) fu x1 x2 ih _ _ _ ).sub ⟨rfl, rfl, rfl, rfl, rfl, trivial⟩
      · refine A_iload_n dX2_layOffice_42 rfl ?_
        refine A_aload_n dX2_layOffice_43 rfl ?_
        refine A_iload dX2_layOffice_44 rfl ?_
        refine A_callVp (a_X2_low (l := l) _ _ ) lc_X2_137 rfl rfl (by decide) (Nat.le_of_ble_eq_true rfl) rfl dX2_layOffice_46 ?_
        refine A_isub dX2_layOffice_49 ?_
        refine A_istore_n dX2_layOffice_50 (Nat.le_of_ble_eq_true rfl) rfl ?_
        exact (a_X2_layOffice_b51 (l := l) fu x1 x2 ih _ _ _ ).sub ⟨rfl, rfl, rfl, rfl, rfl, trivial⟩
def F_X2_layOffice (fu : Nat)  (x1 : Int32) (x2 : Int32)   (M : xM) : Option (Int32 × xM) :=
  F_X2_layOffice_b14 fu x1 x2 fu ((P_X0_mostOf x1 M) * x2) (0 : Int32) M
set_option maxRecDepth 100000 in
set_option maxHeartbeats 4000000 in
theorem w_X2_layOffice {l : Launch} (fu : Nat) (x1 : Int32) (x2 : Int32)     (M : xM)  : AW SC l RX2 cX2_layOffice 7 (some .boolean) 2 ki (F_X2_layOffice fu x1 x2  M) 0 [some (xr 6), some (xi x1), some (xi x2), none, none, none, none] [] M := by
  unfold F_X2_layOffice
  refine A_aload_n dX2_layOffice_0 rfl ?_
  refine A_getr lf_X2_32 rfl rfl dX2_layOffice_1 ?_
  refine A_iload_n dX2_layOffice_4 rfl ?_
  refine A_callVp (a_X0_mostOf (l := l) _ _ ) lc_X2_131 rfl rfl (by decide) (Nat.le_of_ble_eq_true rfl) rfl dX2_layOffice_5 ?_
  refine A_iload_n dX2_layOffice_8 rfl ?_
  refine A_imul dX2_layOffice_9 ?_
  refine A_istore_n dX2_layOffice_10 (Nat.le_of_ble_eq_true rfl) rfl ?_
  refine A_iconst (v := (0 : Int32)) dX2_layOffice_11 oI_0 ?_
  refine A_istore dX2_layOffice_12 (Nat.le_of_ble_eq_true rfl) rfl ?_
  exact (a_X2_layOffice_b14 (l := l) fu x1 x2  fu _ _ _).sub ⟨rfl, rfl, rfl, rfl, rfl, trivial⟩
theorem a_X2_layOffice {l : Launch} (fu : Nat)  (x1 : Int32) (x2 : Int32) (M : xM)  : AM SC l yX2_layOffice cX2_layOffice 7 (some .boolean) 2 ki [xr 6, xi x1, xi x2] M (F_X2_layOffice fu x1 x2  M) :=
  AM.of (L0 := [some (xr 6), some (xi x1), some (xi x2), none, none, none, none]) (w_X2_layOffice (l := l) fu x1 x2  M ) (by decide +kernel) rfl (Nat.le_of_ble_eq_true rfl) ⟨rfl, rfl, rfl, trivial⟩
def F_X2_lay_b75 (fu : Nat)  (x1 : Int32) (x2 : Int32) (k38 : Int32 → Int32 → xM → Option (Int32 × xM)) (x3 : Int32) (x4 : Int32) (M : xM) : Option (Int32 × xM) :=
  k38 x3 (x4 + (1 : Int32)) M
set_option maxRecDepth 100000 in
set_option maxHeartbeats 4000000 in
theorem a_X2_lay_b75 {l : Launch} (fu : Nat) (x1 : Int32) (x2 : Int32)  {k38 : Int32 → Int32 → xM → Option (Int32 × xM)} (hk38 : ∀ (b0 : Int32) (b1 : Int32) (M : xM), AW SC l RX2 cX2_lay 5 (some .boolean) 4 ki (k38 b0 b1 M) 38 [some (xr 6), some (xi x1), none, some (xi b0), some (xi b1)] [] M) (x3 : Int32) (x4 : Int32) (M : xM)  : AW SC l RX2 cX2_lay 5 (some .boolean) 4 ki (F_X2_lay_b75 fu x1 x2 k38 x3 x4 M) 75 [some (xr 6), some (xi x1), none, some (xi x3), some (xi x4)] [] M := by
  unfold F_X2_lay_b75
  refine A_iinc dX2_lay_75 rfl oI_1 (Nat.le_of_ble_eq_true rfl) rfl ?_
  refine A_goto (tgt := 38) dX2_lay_78 (by decide) ?_
  exact (hk38 _ _ _).sub ⟨rfl, rfl, rfl, rfl, trivial⟩
def F_X2_lay_b84 (fu : Nat)  (x1 : Int32) (x2 : Int32)  : Nat → Int32 → Int32 → xM → Option (Int32 × xM)
  | 0, _, _, _ => none
  | n + 1, x3, x4, M =>
    (if (M 1 1) ≤ x4 then
    some ((1 : Int32), M)
    else
    (F_X2_layOffice fu x4 x3 M).bind fun q1 =>
    (if q1.1 = 0 then
    some ((0 : Int32), q1.2)
    else
    F_X2_lay_b84 fu x1 x2 n x3 (x4 + (1 : Int32)) q1.2))
set_option maxRecDepth 100000 in
set_option maxHeartbeats 4000000 in
theorem a_X2_lay_b84 {l : Launch} (fu : Nat) (x1 : Int32) (x2 : Int32)    : ∀ (n : Nat) (x3 : Int32) (x4 : Int32) (M : xM), AW SC l RX2 cX2_lay 5 (some .boolean) 4 ki (F_X2_lay_b84 fu x1 x2 n x3 x4 M) 84 [some (xr 6), none, none, some (xi x3), some (xi x4)] [] M := by
  intro n
  induction n with
  | zero =>
    intro x3 x4 M
    exact AW.none
  | succ n ih =>
    intro x3 x4 M
    rw [F_X2_lay_b84]
    refine A_iload dX2_lay_84 rfl ?_
    refine A_aload_n dX2_lay_86 rfl ?_
    refine A_getr lf_X2_32 rfl rfl dX2_lay_87 ?_
    refine A_geti lf_X2_80 rfl rfl dX2_lay_90 ?_
    refine A_icmp_ge (tgt := 114) dX2_lay_93 (by decide) (fun _ => ?_) (fun _ => ?_)
    · refine A_iconst (v := (1 : Int32)) dX2_lay_114 oI_1 ?_
      exact A_zret' rfl (Or.inr rfl) dX2_lay_115
    · refine A_aload_n dX2_lay_96 rfl ?_
      refine A_iload dX2_lay_97 rfl ?_
      refine A_iload_n dX2_lay_99 rfl ?_
      refine A_callVi (a_X2_layOffice (l := l) fu _ _ _ ) lc_X2_83 rfl rfl (by decide) (Nat.le_of_ble_eq_true rfl) rfl dX2_lay_100 (fun q1 Mq1 hq1 => ?_)
      refine A_if_ne (tgt := 108) dX2_lay_103 (by decide) (fun _ => ?_) (fun _ => ?_)
      · refine A_iconst (v := (0 : Int32)) dX2_lay_106 oI_0 ?_
        exact A_zret' rfl (Or.inl rfl) dX2_lay_107
      · refine A_iinc dX2_lay_108 rfl oI_1 (Nat.le_of_ble_eq_true rfl) rfl ?_
        refine A_goto (tgt := 84) dX2_lay_111 (by decide) ?_
        exact (ih _ _ _).sub ⟨rfl, rfl, rfl, trivial⟩
def F_X2_lay_b38 (fu : Nat)  (x1 : Int32) (x2 : Int32)  : Nat → Int32 → Int32 → xM → Option (Int32 × xM)
  | 0, _, _, _ => none
  | n + 1, x3, x4, M =>
    (if (M 1 0) ≤ x4 then
    F_X2_lay_b84 fu x1 x2 fu x3 (0 : Int32) M
    else
    (if (P_X0_isRuled x4 M) = 0 then
    F_X2_lay_b75 fu x1 x2 (F_X2_lay_b38 fu x1 x2 n) x3 x4 M
    else
    (F_X2_layLever x1 x4 x3 M).bind fun q1 =>
    (if q1.1 = 0 then
    some ((0 : Int32), q1.2)
    else
    F_X2_lay_b75 fu x1 x2 (F_X2_lay_b38 fu x1 x2 n) x3 x4 q1.2)))
set_option maxRecDepth 100000 in
set_option maxHeartbeats 4000000 in
theorem a_X2_lay_b38 {l : Launch} (fu : Nat) (x1 : Int32) (x2 : Int32)    : ∀ (n : Nat) (x3 : Int32) (x4 : Int32) (M : xM), AW SC l RX2 cX2_lay 5 (some .boolean) 4 ki (F_X2_lay_b38 fu x1 x2 n x3 x4 M) 38 [some (xr 6), some (xi x1), none, some (xi x3), some (xi x4)] [] M := by
  intro n
  induction n with
  | zero =>
    intro x3 x4 M
    exact AW.none
  | succ n ih =>
    intro x3 x4 M
    rw [F_X2_lay_b38]
    refine A_iload dX2_lay_38 rfl ?_
    refine A_aload_n dX2_lay_40 rfl ?_
    refine A_getr lf_X2_32 rfl rfl dX2_lay_41 ?_
    refine A_geti lf_X2_69 rfl rfl dX2_lay_44 ?_
    refine A_icmp_ge (tgt := 81) dX2_lay_47 (by decide) (fun _ => ?_) (fun _ => ?_)
    · refine A_iconst (v := (0 : Int32)) dX2_lay_81 oI_0 ?_
      refine A_istore dX2_lay_82 (Nat.le_of_ble_eq_true rfl) rfl ?_
      exact (a_X2_lay_b84 (l := l) fu x1 x2  fu _ _ _).sub ⟨rfl, rfl, rfl, trivial⟩
    · refine A_aload_n dX2_lay_50 rfl ?_
      refine A_getr lf_X2_32 rfl rfl dX2_lay_51 ?_
      refine A_iload dX2_lay_54 rfl ?_
      refine A_callVp (a_X0_isRuled (l := l) _ _ ) lc_X2_73 rfl rfl (by decide) (Nat.le_of_ble_eq_true rfl) rfl dX2_lay_56 ?_
      refine A_if_eq (tgt := 75) dX2_lay_59 (by decide) (fun _ => ?_) (fun _ => ?_)
      · exact (a_X2_lay_b75 (l := l) fu x1 x2 ih _ _ _ ).sub ⟨rfl, rfl, rfl, rfl, trivial⟩
      · refine A_aload_n dX2_lay_62 rfl ?_
        refine A_iload_n dX2_lay_63 rfl ?_
        refine A_iload dX2_lay_64 rfl ?_
        refine A_iload_n dX2_lay_66 rfl ?_
        refine A_callVi (a_X2_layLever (l := l) _ _ _ _ ) lc_X2_77 rfl rfl (by decide) (Nat.le_of_ble_eq_true rfl) rfl dX2_lay_67 (fun q1 Mq1 hq1 => ?_)
        refine A_if_ne (tgt := 75) dX2_lay_70 (by decide) (fun _ => ?_) (fun _ => ?_)
        · refine A_iconst (v := (0 : Int32)) dX2_lay_73 oI_0 ?_
          exact A_zret' rfl (Or.inl rfl) dX2_lay_74
        · exact (a_X2_lay_b75 (l := l) fu x1 x2 ih _ _ _ ).sub ⟨rfl, rfl, rfl, rfl, trivial⟩
def F_X2_lay (fu : Nat)  (x1 : Int32) (x2 : Int32)   (M : xM) : Option (Int32 × xM) :=
  (if (P_X1_within x2 (0 : Int32) ((P_X2_setsOf x1 M) - (1 : Int32)) M) = 0 then
  some ((0 : Int32), M)
  else
  (F_X2_arrange fu x1 x2 M).bind fun q1 =>
  F_X2_lay_b38 fu x1 x2 fu (P_X1_at 23 6 x1 q1) (0 : Int32) q1)
set_option maxRecDepth 100000 in
set_option maxHeartbeats 4000000 in
theorem w_X2_lay {l : Launch} (fu : Nat) (x1 : Int32) (x2 : Int32)     (M : xM)  : AW SC l RX2 cX2_lay 5 (some .boolean) 4 ki (F_X2_lay fu x1 x2  M) 0 [some (xr 6), some (xi x1), some (xi x2), none, none] [] M := by
  unfold F_X2_lay
  refine A_iload_n dX2_lay_0 rfl ?_
  refine A_iconst (v := (0 : Int32)) dX2_lay_1 oI_0 ?_
  refine A_aload_n dX2_lay_2 rfl ?_
  refine A_iload_n dX2_lay_3 rfl ?_
  refine A_callVp (a_X2_setsOf (l := l) _ _ ) lc_X2_55 rfl rfl (by decide) (Nat.le_of_ble_eq_true rfl) rfl dX2_lay_4 ?_
  refine A_iconst (v := (1 : Int32)) dX2_lay_7 oI_1 ?_
  refine A_isub dX2_lay_8 ?_
  refine A_callSp (a_X1_within (S := SC) (l := l) _ _ _ _ ) lc_X2_58 rfl (by decide) (Nat.le_of_ble_eq_true rfl) rfl dX2_lay_9 ?_
  refine A_if_ne (tgt := 17) dX2_lay_12 (by decide) (fun _ => ?_) (fun _ => ?_)
  · refine A_iconst (v := (0 : Int32)) dX2_lay_15 oI_0 ?_
    exact A_zret' rfl (Or.inl rfl) dX2_lay_16
  · refine A_aload_n dX2_lay_17 rfl ?_
    refine A_iload_n dX2_lay_18 rfl ?_
    refine A_iload_n dX2_lay_19 rfl ?_
    refine A_callVv (a_X2_arrange (l := l) fu _ _ _ ) lc_X2_62 rfl rfl (by decide) (Nat.le_of_ble_eq_true rfl) rfl dX2_lay_20 (fun q1 hq1 => ?_)
    refine A_aload_n dX2_lay_23 rfl ?_
    refine A_getr lf_X2_36 rfl rfl dX2_lay_24 ?_
    refine A_getr lf_X2_66 rfl rfl dX2_lay_27 ?_
    refine A_iload_n dX2_lay_30 rfl ?_
    refine A_callSp (a_X1_at (S := SC) (l := l) _ _ _ _ rfl) lc_X2_40 rfl (by decide) (Nat.le_of_ble_eq_true rfl) rfl dX2_lay_31 ?_
    refine A_istore_n dX2_lay_34 (Nat.le_of_ble_eq_true rfl) rfl ?_
    refine A_iconst (v := (0 : Int32)) dX2_lay_35 oI_0 ?_
    refine A_istore dX2_lay_36 (Nat.le_of_ble_eq_true rfl) rfl ?_
    exact (a_X2_lay_b38 (l := l) fu x1 x2  fu _ _ _).sub ⟨rfl, rfl, rfl, rfl, trivial⟩
theorem a_X2_lay {l : Launch} (fu : Nat)  (x1 : Int32) (x2 : Int32) (M : xM)  : AM SC l yX2_lay cX2_lay 5 (some .boolean) 4 ki [xr 6, xi x1, xi x2] M (F_X2_lay fu x1 x2  M) :=
  AM.of (L0 := [some (xr 6), some (xi x1), some (xi x2), none, none]) (w_X2_lay (l := l) fu x1 x2  M ) (by decide +kernel) rfl (Nat.le_of_ble_eq_true rfl) ⟨rfl, rfl, rfl, trivial⟩
def F_X2_howMany_b25 (fu : Nat)  (x1 : Int32) (k4 : Int32 → Int32 → xM → Option (Int32 × xM)) (x2 : Int32) (x3 : Int32) (M : xM) : Option (Int32 × xM) :=
  k4 x2 (x3 + (1 : Int32)) M
set_option maxRecDepth 100000 in
set_option maxHeartbeats 4000000 in
theorem a_X2_howMany_b25 {l : Launch} (fu : Nat) (x1 : Int32)  {k4 : Int32 → Int32 → xM → Option (Int32 × xM)} (hk4 : ∀ (b0 : Int32) (b1 : Int32) (M : xM), AW SC l RX2 cX2_howMany 4 (some .int) 5 ki (k4 b0 b1 M) 4 [some (xr 6), some (xi x1), some (xi b0), some (xi b1)] [] M) (x2 : Int32) (x3 : Int32) (M : xM)  : AW SC l RX2 cX2_howMany 4 (some .int) 5 ki (F_X2_howMany_b25 fu x1 k4 x2 x3 M) 25 [some (xr 6), some (xi x1), some (xi x2), some (xi x3)] [] M := by
  unfold F_X2_howMany_b25
  refine A_iinc dX2_howMany_25 rfl oI_1 (Nat.le_of_ble_eq_true rfl) rfl ?_
  refine A_goto (tgt := 4) dX2_howMany_28 (by decide) ?_
  exact (hk4 _ _ _).sub ⟨rfl, rfl, rfl, rfl, trivial⟩
def F_X2_howMany_b4 (fu : Nat)  (x1 : Int32)  : Nat → Int32 → Int32 → xM → Option (Int32 × xM)
  | 0, _, _, _ => none
  | n + 1, x2, x3, M =>
    (if (P_X2_setsOf x1 M) ≤ x3 then
    some (x2, M)
    else
    (F_X2_lay fu x1 x3 M).bind fun q1 =>
    (if q1.1 = 0 then
    F_X2_howMany_b25 fu x1 (F_X2_howMany_b4 fu x1 n) x2 x3 q1.2
    else
    F_X2_howMany_b25 fu x1 (F_X2_howMany_b4 fu x1 n) (x2 + (1 : Int32)) x3 q1.2))
set_option maxRecDepth 100000 in
set_option maxHeartbeats 4000000 in
theorem a_X2_howMany_b4 {l : Launch} (fu : Nat) (x1 : Int32)    : ∀ (n : Nat) (x2 : Int32) (x3 : Int32) (M : xM), AW SC l RX2 cX2_howMany 4 (some .int) 5 ki (F_X2_howMany_b4 fu x1 n x2 x3 M) 4 [some (xr 6), some (xi x1), some (xi x2), some (xi x3)] [] M := by
  intro n
  induction n with
  | zero =>
    intro x2 x3 M
    exact AW.none
  | succ n ih =>
    intro x2 x3 M
    rw [F_X2_howMany_b4]
    refine A_iload_n dX2_howMany_4 rfl ?_
    refine A_aload_n dX2_howMany_5 rfl ?_
    refine A_iload_n dX2_howMany_6 rfl ?_
    refine A_callVp (a_X2_setsOf (l := l) _ _ ) lc_X2_55 rfl rfl (by decide) (Nat.le_of_ble_eq_true rfl) rfl dX2_howMany_7 ?_
    refine A_icmp_ge (tgt := 31) dX2_howMany_10 (by decide) (fun _ => ?_) (fun _ => ?_)
    · refine A_iload_n dX2_howMany_31 rfl ?_
      exact A_iret rfl dX2_howMany_32
    · refine A_aload_n dX2_howMany_13 rfl ?_
      refine A_iload_n dX2_howMany_14 rfl ?_
      refine A_iload_n dX2_howMany_15 rfl ?_
      refine A_callVi (a_X2_lay (l := l) fu _ _ _ ) lc_X2_140 rfl rfl (by decide) (Nat.le_of_ble_eq_true rfl) rfl dX2_howMany_16 (fun q1 Mq1 hq1 => ?_)
      refine A_if_eq (tgt := 25) dX2_howMany_19 (by decide) (fun _ => ?_) (fun _ => ?_)
      · exact (a_X2_howMany_b25 (l := l) fu x1 ih _ _ _ ).sub ⟨rfl, rfl, rfl, rfl, trivial⟩
      · refine A_iinc dX2_howMany_22 rfl oI_1 (Nat.le_of_ble_eq_true rfl) rfl ?_
        exact (a_X2_howMany_b25 (l := l) fu x1 ih _ _ _ ).sub ⟨rfl, rfl, rfl, rfl, trivial⟩
def F_X2_howMany (fu : Nat)  (x1 : Int32)   (M : xM) : Option (Int32 × xM) :=
  F_X2_howMany_b4 fu x1 fu (0 : Int32) (0 : Int32) M
set_option maxRecDepth 100000 in
set_option maxHeartbeats 4000000 in
theorem w_X2_howMany {l : Launch} (fu : Nat) (x1 : Int32)     (M : xM)  : AW SC l RX2 cX2_howMany 4 (some .int) 5 ki (F_X2_howMany fu x1  M) 0 [some (xr 6), some (xi x1), none, none] [] M := by
  unfold F_X2_howMany
  refine A_iconst (v := (0 : Int32)) dX2_howMany_0 oI_0 ?_
  refine A_istore_n dX2_howMany_1 (Nat.le_of_ble_eq_true rfl) rfl ?_
  refine A_iconst (v := (0 : Int32)) dX2_howMany_2 oI_0 ?_
  refine A_istore_n dX2_howMany_3 (Nat.le_of_ble_eq_true rfl) rfl ?_
  exact (a_X2_howMany_b4 (l := l) fu x1  fu _ _ _).sub ⟨rfl, rfl, rfl, rfl, trivial⟩
theorem a_X2_howMany {l : Launch} (fu : Nat)  (x1 : Int32) (M : xM)  : AM SC l yX2_howMany cX2_howMany 4 (some .int) 5 ki [xr 6, xi x1] M (F_X2_howMany fu x1  M) :=
  AM.of (L0 := [some (xr 6), some (xi x1), none, none]) (w_X2_howMany (l := l) fu x1  M ) (by decide +kernel) rfl (Nat.le_of_ble_eq_true rfl) ⟨rfl, rfl, trivial⟩
def F_X2_numbered_b36 (fu : Nat)  (x1 : Int32) (x2 : Int32) (k5 : Int32 → Int32 → xM → Option (Int32 × xM)) (x3 : Int32) (x4 : Int32) (M : xM) : Option (Int32 × xM) :=
  k5 x3 (x4 + (1 : Int32)) M
set_option maxRecDepth 100000 in
set_option maxHeartbeats 4000000 in
theorem a_X2_numbered_b36 {l : Launch} (fu : Nat) (x1 : Int32) (x2 : Int32)  {k5 : Int32 → Int32 → xM → Option (Int32 × xM)} (hk5 : ∀ (b0 : Int32) (b1 : Int32) (M : xM), AW SC l RX2 cX2_numbered 5 (some .int) 5 ki (k5 b0 b1 M) 5 [some (xr 6), some (xi x1), some (xi x2), some (xi b0), some (xi b1)] [] M) (x3 : Int32) (x4 : Int32) (M : xM)  : AW SC l RX2 cX2_numbered 5 (some .int) 5 ki (F_X2_numbered_b36 fu x1 x2 k5 x3 x4 M) 36 [some (xr 6), some (xi x1), some (xi x2), some (xi x3), some (xi x4)] [] M := by
  unfold F_X2_numbered_b36
  refine A_iinc dX2_numbered_36 rfl oI_1 (Nat.le_of_ble_eq_true rfl) rfl ?_
  refine A_goto (tgt := 5) dX2_numbered_39 (by decide) ?_
  exact (hk5 _ _ _).sub ⟨rfl, rfl, rfl, rfl, rfl, trivial⟩
def F_X2_numbered_b5 (fu : Nat)  (x1 : Int32) (x2 : Int32)  : Nat → Int32 → Int32 → xM → Option (Int32 × xM)
  | 0, _, _, _ => none
  | n + 1, x3, x4, M =>
    (if (P_X2_setsOf x1 M) ≤ x4 then
    some ((-1 : Int32), M)
    else
    (F_X2_lay fu x1 x4 M).bind fun q1 =>
    (if q1.1 = 0 then
    F_X2_numbered_b36 fu x1 x2 (F_X2_numbered_b5 fu x1 x2 n) x3 x4 q1.2
    else
    (if x3 = x2 then
    some (x4, q1.2)
    else
    F_X2_numbered_b36 fu x1 x2 (F_X2_numbered_b5 fu x1 x2 n) (x3 + (1 : Int32)) x4 q1.2)))
set_option maxRecDepth 100000 in
set_option maxHeartbeats 4000000 in
theorem a_X2_numbered_b5 {l : Launch} (fu : Nat) (x1 : Int32) (x2 : Int32)    : ∀ (n : Nat) (x3 : Int32) (x4 : Int32) (M : xM), AW SC l RX2 cX2_numbered 5 (some .int) 5 ki (F_X2_numbered_b5 fu x1 x2 n x3 x4 M) 5 [some (xr 6), some (xi x1), some (xi x2), some (xi x3), some (xi x4)] [] M := by
  intro n
  induction n with
  | zero =>
    intro x3 x4 M
    exact AW.none
  | succ n ih =>
    intro x3 x4 M
    rw [F_X2_numbered_b5]
    refine A_iload dX2_numbered_5 rfl ?_
    refine A_aload_n dX2_numbered_7 rfl ?_
    refine A_iload_n dX2_numbered_8 rfl ?_
    refine A_callVp (a_X2_setsOf (l := l) _ _ ) lc_X2_55 rfl rfl (by decide) (Nat.le_of_ble_eq_true rfl) rfl dX2_numbered_9 ?_
    refine A_icmp_ge (tgt := 42) dX2_numbered_12 (by decide) (fun _ => ?_) (fun _ => ?_)
    · refine A_iconst (v := (-1 : Int32)) dX2_numbered_42 oI_m1 ?_
      exact A_iret rfl dX2_numbered_43
    · refine A_aload_n dX2_numbered_15 rfl ?_
      refine A_iload_n dX2_numbered_16 rfl ?_
      refine A_iload dX2_numbered_17 rfl ?_
      refine A_callVi (a_X2_lay (l := l) fu _ _ _ ) lc_X2_140 rfl rfl (by decide) (Nat.le_of_ble_eq_true rfl) rfl dX2_numbered_19 (fun q1 Mq1 hq1 => ?_)
      refine A_if_eq (tgt := 36) dX2_numbered_22 (by decide) (fun _ => ?_) (fun _ => ?_)
      · exact (a_X2_numbered_b36 (l := l) fu x1 x2 ih _ _ _ ).sub ⟨rfl, rfl, rfl, rfl, rfl, trivial⟩
      · refine A_iload_n dX2_numbered_25 rfl ?_
        refine A_iload_n dX2_numbered_26 rfl ?_
        refine A_icmp_ne (tgt := 33) dX2_numbered_27 (by decide) (fun _ => ?_) (fun _ => ?_)
        · refine A_iload dX2_numbered_30 rfl ?_
          exact A_iret rfl dX2_numbered_32
        · refine A_iinc dX2_numbered_33 rfl oI_1 (Nat.le_of_ble_eq_true rfl) rfl ?_
          exact (a_X2_numbered_b36 (l := l) fu x1 x2 ih _ _ _ ).sub ⟨rfl, rfl, rfl, rfl, rfl, trivial⟩
def F_X2_numbered (fu : Nat)  (x1 : Int32) (x2 : Int32)   (M : xM) : Option (Int32 × xM) :=
  F_X2_numbered_b5 fu x1 x2 fu (0 : Int32) (0 : Int32) M
set_option maxRecDepth 100000 in
set_option maxHeartbeats 4000000 in
theorem w_X2_numbered {l : Launch} (fu : Nat) (x1 : Int32) (x2 : Int32)     (M : xM)  : AW SC l RX2 cX2_numbered 5 (some .int) 5 ki (F_X2_numbered fu x1 x2  M) 0 [some (xr 6), some (xi x1), some (xi x2), none, none] [] M := by
  unfold F_X2_numbered
  refine A_iconst (v := (0 : Int32)) dX2_numbered_0 oI_0 ?_
  refine A_istore_n dX2_numbered_1 (Nat.le_of_ble_eq_true rfl) rfl ?_
  refine A_iconst (v := (0 : Int32)) dX2_numbered_2 oI_0 ?_
  refine A_istore dX2_numbered_3 (Nat.le_of_ble_eq_true rfl) rfl ?_
  exact (a_X2_numbered_b5 (l := l) fu x1 x2  fu _ _ _).sub ⟨rfl, rfl, rfl, rfl, rfl, trivial⟩
theorem a_X2_numbered {l : Launch} (fu : Nat)  (x1 : Int32) (x2 : Int32) (M : xM)  : AM SC l yX2_numbered cX2_numbered 5 (some .int) 5 ki [xr 6, xi x1, xi x2] M (F_X2_numbered fu x1 x2  M) :=
  AM.of (L0 := [some (xr 6), some (xi x1), some (xi x2), none, none]) (w_X2_numbered (l := l) fu x1 x2  M ) (by decide +kernel) rfl (Nat.le_of_ble_eq_true rfl) ⟨rfl, rfl, rfl, trivial⟩
def F_X2_fewest_b37 (fu : Nat)  (x1 : Int32) (k4 : Int32 → Int32 → xM → Option (Int32 × xM)) (x2 : Int32) (x3 : Int32) (M : xM) : Option (Int32 × xM) :=
  k4 x2 (x3 + (1 : Int32)) M
set_option maxRecDepth 100000 in
set_option maxHeartbeats 4000000 in
theorem a_X2_fewest_b37 {l : Launch} (fu : Nat) (x1 : Int32)  {k4 : Int32 → Int32 → xM → Option (Int32 × xM)} (hk4 : ∀ (b0 : Int32) (b1 : Int32) (M : xM), AW SC l RX2 cX2_fewest 4 (some .int) 5 ki (k4 b0 b1 M) 4 [some (xr 6), some (xi x1), some (xi b0), some (xi b1)] [] M) (x2 : Int32) (x3 : Int32) (M : xM)  : AW SC l RX2 cX2_fewest 4 (some .int) 5 ki (F_X2_fewest_b37 fu x1 k4 x2 x3 M) 37 [some (xr 6), some (xi x1), some (xi x2), some (xi x3)] [] M := by
  unfold F_X2_fewest_b37
  refine A_iinc dX2_fewest_37 rfl oI_1 (Nat.le_of_ble_eq_true rfl) rfl ?_
  refine A_goto (tgt := 4) dX2_fewest_40 (by decide) ?_
  exact (hk4 _ _ _).sub ⟨rfl, rfl, rfl, rfl, trivial⟩
def F_X2_fewest_b26 (fu : Nat)  (x1 : Int32) (k4 : Int32 → Int32 → xM → Option (Int32 × xM)) (x2 : Int32) (x3 : Int32) (M : xM) : Option (Int32 × xM) :=
  (F_X2_lay fu x1 x3 M).bind fun q1 =>
  (if q1.1 = 0 then
  F_X2_fewest_b37 fu x1 k4 x2 x3 q1.2
  else
  F_X2_fewest_b37 fu x1 k4 x3 x3 q1.2)
set_option maxRecDepth 100000 in
set_option maxHeartbeats 4000000 in
theorem a_X2_fewest_b26 {l : Launch} (fu : Nat) (x1 : Int32)  {k4 : Int32 → Int32 → xM → Option (Int32 × xM)} (hk4 : ∀ (b0 : Int32) (b1 : Int32) (M : xM), AW SC l RX2 cX2_fewest 4 (some .int) 5 ki (k4 b0 b1 M) 4 [some (xr 6), some (xi x1), some (xi b0), some (xi b1)] [] M) (x2 : Int32) (x3 : Int32) (M : xM)  : AW SC l RX2 cX2_fewest 4 (some .int) 5 ki (F_X2_fewest_b26 fu x1 k4 x2 x3 M) 26 [some (xr 6), some (xi x1), some (xi x2), some (xi x3)] [] M := by
  unfold F_X2_fewest_b26
  refine A_aload_n dX2_fewest_26 rfl ?_
  refine A_iload_n dX2_fewest_27 rfl ?_
  refine A_iload_n dX2_fewest_28 rfl ?_
  refine A_callVi (a_X2_lay (l := l) fu _ _ _ ) lc_X2_140 rfl rfl (by decide) (Nat.le_of_ble_eq_true rfl) rfl dX2_fewest_29 (fun q1 Mq1 hq1 => ?_)
  refine A_if_eq (tgt := 37) dX2_fewest_32 (by decide) (fun _ => ?_) (fun _ => ?_)
  · exact (a_X2_fewest_b37 (l := l) fu x1 hk4 _ _ _ ).sub ⟨rfl, rfl, rfl, rfl, trivial⟩
  · refine A_iload_n dX2_fewest_35 rfl ?_
    refine A_istore_n dX2_fewest_36 (Nat.le_of_ble_eq_true rfl) rfl ?_
    exact (a_X2_fewest_b37 (l := l) fu x1 hk4 _ _ _ ).sub ⟨rfl, rfl, rfl, rfl, trivial⟩
def F_X2_fewest_b4 (fu : Nat)  (x1 : Int32)  : Nat → Int32 → Int32 → xM → Option (Int32 × xM)
  | 0, _, _, _ => none
  | n + 1, x2, x3, M =>
    (if (P_X2_setsOf x1 M) ≤ x3 then
    some (x2, M)
    else
    (if x2 = (-1 : Int32) then
    F_X2_fewest_b26 fu x1 (F_X2_fewest_b4 fu x1 n) x2 x3 M
    else
    (if (P_X1_better x3 x2 M) = 0 then
    F_X2_fewest_b37 fu x1 (F_X2_fewest_b4 fu x1 n) x2 x3 M
    else
    F_X2_fewest_b26 fu x1 (F_X2_fewest_b4 fu x1 n) x2 x3 M)))
set_option maxRecDepth 100000 in
set_option maxHeartbeats 4000000 in
theorem a_X2_fewest_b4 {l : Launch} (fu : Nat) (x1 : Int32)    : ∀ (n : Nat) (x2 : Int32) (x3 : Int32) (M : xM), AW SC l RX2 cX2_fewest 4 (some .int) 5 ki (F_X2_fewest_b4 fu x1 n x2 x3 M) 4 [some (xr 6), some (xi x1), some (xi x2), some (xi x3)] [] M := by
  intro n
  induction n with
  | zero =>
    intro x2 x3 M
    exact AW.none
  | succ n ih =>
    intro x2 x3 M
    rw [F_X2_fewest_b4]
    refine A_iload_n dX2_fewest_4 rfl ?_
    refine A_aload_n dX2_fewest_5 rfl ?_
    refine A_iload_n dX2_fewest_6 rfl ?_
    refine A_callVp (a_X2_setsOf (l := l) _ _ ) lc_X2_55 rfl rfl (by decide) (Nat.le_of_ble_eq_true rfl) rfl dX2_fewest_7 ?_
    refine A_icmp_ge (tgt := 43) dX2_fewest_10 (by decide) (fun _ => ?_) (fun _ => ?_)
    · refine A_iload_n dX2_fewest_43 rfl ?_
      exact A_iret rfl dX2_fewest_44
    · refine A_iload_n dX2_fewest_13 rfl ?_
      refine A_iconst (v := (-1 : Int32)) dX2_fewest_14 oI_m1 ?_
      refine A_icmp_eq (tgt := 26) dX2_fewest_15 (by decide) (fun _ => ?_) (fun _ => ?_)
      · exact (a_X2_fewest_b26 (l := l) fu x1 ih _ _ _ ).sub ⟨rfl, rfl, rfl, rfl, trivial⟩
      · refine A_iload_n dX2_fewest_18 rfl ?_
        refine A_iload_n dX2_fewest_19 rfl ?_
        refine A_callSp (a_X1_better (S := SC) (l := l) _ _ _ ) lc_X2_143 rfl (by decide) (Nat.le_of_ble_eq_true rfl) rfl dX2_fewest_20 ?_
        refine A_if_eq (tgt := 37) dX2_fewest_23 (by decide) (fun _ => ?_) (fun _ => ?_)
        · exact (a_X2_fewest_b37 (l := l) fu x1 ih _ _ _ ).sub ⟨rfl, rfl, rfl, rfl, trivial⟩
        · exact (a_X2_fewest_b26 (l := l) fu x1 ih _ _ _ ).sub ⟨rfl, rfl, rfl, rfl, trivial⟩
def F_X2_fewest (fu : Nat)  (x1 : Int32)   (M : xM) : Option (Int32 × xM) :=
  F_X2_fewest_b4 fu x1 fu (-1 : Int32) (0 : Int32) M
set_option maxRecDepth 100000 in
set_option maxHeartbeats 4000000 in
theorem w_X2_fewest {l : Launch} (fu : Nat) (x1 : Int32)     (M : xM)  : AW SC l RX2 cX2_fewest 4 (some .int) 5 ki (F_X2_fewest fu x1  M) 0 [some (xr 6), some (xi x1), none, none] [] M := by
  unfold F_X2_fewest
  refine A_iconst (v := (-1 : Int32)) dX2_fewest_0 oI_m1 ?_
  refine A_istore_n dX2_fewest_1 (Nat.le_of_ble_eq_true rfl) rfl ?_
  refine A_iconst (v := (0 : Int32)) dX2_fewest_2 oI_0 ?_
  refine A_istore_n dX2_fewest_3 (Nat.le_of_ble_eq_true rfl) rfl ?_
  exact (a_X2_fewest_b4 (l := l) fu x1  fu _ _ _).sub ⟨rfl, rfl, rfl, rfl, trivial⟩
theorem a_X2_fewest {l : Launch} (fu : Nat)  (x1 : Int32) (M : xM)  : AM SC l yX2_fewest cX2_fewest 4 (some .int) 5 ki [xr 6, xi x1] M (F_X2_fewest fu x1  M) :=
  AM.of (L0 := [some (xr 6), some (xi x1), none, none]) (w_X2_fewest (l := l) fu x1  M ) (by decide +kernel) rfl (Nat.le_of_ble_eq_true rfl) ⟨rfl, rfl, trivial⟩
def F_X2_inAll_b35 (fu : Nat)  (x1 : Int32) (k4 : Int32 → Int32 → xM → Option (Int32 × xM)) (x2 : Int32) (x3 : Int32) (M : xM) : Option (Int32 × xM) :=
  k4 x2 (x3 + (1 : Int32)) M
set_option maxRecDepth 100000 in
set_option maxHeartbeats 4000000 in
theorem a_X2_inAll_b35 {l : Launch} (fu : Nat) (x1 : Int32)  {k4 : Int32 → Int32 → xM → Option (Int32 × xM)} (hk4 : ∀ (b0 : Int32) (b1 : Int32) (M : xM), AW SC l RX2 cX2_inAll 4 (some .int) 5 ki (k4 b0 b1 M) 4 [some (xr 6), some (xi x1), some (xi b0), some (xi b1)] [] M) (x2 : Int32) (x3 : Int32) (M : xM)  : AW SC l RX2 cX2_inAll 4 (some .int) 5 ki (F_X2_inAll_b35 fu x1 k4 x2 x3 M) 35 [some (xr 6), some (xi x1), some (xi x2), some (xi x3)] [] M := by
  unfold F_X2_inAll_b35
  refine A_iinc dX2_inAll_35 rfl oI_1 (Nat.le_of_ble_eq_true rfl) rfl ?_
  refine A_goto (tgt := 4) dX2_inAll_38 (by decide) ?_
  exact (hk4 _ _ _).sub ⟨rfl, rfl, rfl, rfl, trivial⟩
def F_X2_inAll_b34 (fu : Nat)  (x1 : Int32) (k4 : Int32 → Int32 → xM → Option (Int32 × xM)) (x3 : Int32) (s0 : Int32) (M : xM) : Option (Int32 × xM) :=
  F_X2_inAll_b35 fu x1 k4 s0 x3 M
set_option maxRecDepth 100000 in
set_option maxHeartbeats 4000000 in
theorem a_X2_inAll_b34 {l : Launch} (fu : Nat) (x1 : Int32)  {k4 : Int32 → Int32 → xM → Option (Int32 × xM)} (hk4 : ∀ (b0 : Int32) (b1 : Int32) (M : xM), AW SC l RX2 cX2_inAll 4 (some .int) 5 ki (k4 b0 b1 M) 4 [some (xr 6), some (xi x1), some (xi b0), some (xi b1)] [] M) (x3 : Int32) (s0 : Int32) (M : xM)  : AW SC l RX2 cX2_inAll 4 (some .int) 5 ki (F_X2_inAll_b34 fu x1 k4 x3 s0 M) 34 [some (xr 6), some (xi x1), none, some (xi x3)] [xi s0] M := by
  unfold F_X2_inAll_b34
  refine A_istore_n dX2_inAll_34 (Nat.le_of_ble_eq_true rfl) rfl ?_
  exact (a_X2_inAll_b35 (l := l) fu x1 hk4 _ _ _ ).sub ⟨rfl, rfl, rfl, rfl, trivial⟩
def F_X2_inAll_b4 (fu : Nat)  (x1 : Int32)  : Nat → Int32 → Int32 → xM → Option (Int32 × xM)
  | 0, _, _, _ => none
  | n + 1, x2, x3, M =>
    (if (P_X2_setsOf x1 M) ≤ x3 then
    some (x2, M)
    else
    (F_X2_lay fu x1 x3 M).bind fun q1 =>
    (if q1.1 = 0 then
    F_X2_inAll_b35 fu x1 (F_X2_inAll_b4 fu x1 n) x2 x3 q1.2
    else
    (if x2 = (-1 : Int32) then
    F_X2_inAll_b34 fu x1 (F_X2_inAll_b4 fu x1 n) x3 x3 q1.2
    else
    F_X2_inAll_b34 fu x1 (F_X2_inAll_b4 fu x1 n) x3 (x2 &&& x3) q1.2)))
set_option maxRecDepth 100000 in
set_option maxHeartbeats 4000000 in
theorem a_X2_inAll_b4 {l : Launch} (fu : Nat) (x1 : Int32)    : ∀ (n : Nat) (x2 : Int32) (x3 : Int32) (M : xM), AW SC l RX2 cX2_inAll 4 (some .int) 5 ki (F_X2_inAll_b4 fu x1 n x2 x3 M) 4 [some (xr 6), some (xi x1), some (xi x2), some (xi x3)] [] M := by
  intro n
  induction n with
  | zero =>
    intro x2 x3 M
    exact AW.none
  | succ n ih =>
    intro x2 x3 M
    rw [F_X2_inAll_b4]
    refine A_iload_n dX2_inAll_4 rfl ?_
    refine A_aload_n dX2_inAll_5 rfl ?_
    refine A_iload_n dX2_inAll_6 rfl ?_
    refine A_callVp (a_X2_setsOf (l := l) _ _ ) lc_X2_55 rfl rfl (by decide) (Nat.le_of_ble_eq_true rfl) rfl dX2_inAll_7 ?_
    refine A_icmp_ge (tgt := 41) dX2_inAll_10 (by decide) (fun _ => ?_) (fun _ => ?_)
    · refine A_iload_n dX2_inAll_41 rfl ?_
      exact A_iret rfl dX2_inAll_42
    · refine A_aload_n dX2_inAll_13 rfl ?_
      refine A_iload_n dX2_inAll_14 rfl ?_
      refine A_iload_n dX2_inAll_15 rfl ?_
      refine A_callVi (a_X2_lay (l := l) fu _ _ _ ) lc_X2_140 rfl rfl (by decide) (Nat.le_of_ble_eq_true rfl) rfl dX2_inAll_16 (fun q1 Mq1 hq1 => ?_)
      refine A_if_eq (tgt := 35) dX2_inAll_19 (by decide) (fun _ => ?_) (fun _ => ?_)
      · exact (a_X2_inAll_b35 (l := l) fu x1 ih _ _ _ ).sub ⟨rfl, rfl, rfl, rfl, trivial⟩
      · refine A_iload_n dX2_inAll_22 rfl ?_
        refine A_iconst (v := (-1 : Int32)) dX2_inAll_23 oI_m1 ?_
        refine A_icmp_ne (tgt := 31) dX2_inAll_24 (by decide) (fun _ => ?_) (fun _ => ?_)
        · refine A_iload_n dX2_inAll_27 rfl ?_
          refine A_goto (tgt := 34) dX2_inAll_28 (by decide) ?_
          exact (a_X2_inAll_b34 (l := l) fu x1 ih _ _ _ ).sub ⟨rfl, rfl, rfl, trivial⟩
        · refine A_iload_n dX2_inAll_31 rfl ?_
          refine A_iload_n dX2_inAll_32 rfl ?_
          refine A_iand dX2_inAll_33 ?_
          exact (a_X2_inAll_b34 (l := l) fu x1 ih _ _ _ ).sub ⟨rfl, rfl, rfl, trivial⟩
def F_X2_inAll (fu : Nat)  (x1 : Int32)   (M : xM) : Option (Int32 × xM) :=
  F_X2_inAll_b4 fu x1 fu (-1 : Int32) (0 : Int32) M
set_option maxRecDepth 100000 in
set_option maxHeartbeats 4000000 in
theorem w_X2_inAll {l : Launch} (fu : Nat) (x1 : Int32)     (M : xM)  : AW SC l RX2 cX2_inAll 4 (some .int) 5 ki (F_X2_inAll fu x1  M) 0 [some (xr 6), some (xi x1), none, none] [] M := by
  unfold F_X2_inAll
  refine A_iconst (v := (-1 : Int32)) dX2_inAll_0 oI_m1 ?_
  refine A_istore_n dX2_inAll_1 (Nat.le_of_ble_eq_true rfl) rfl ?_
  refine A_iconst (v := (0 : Int32)) dX2_inAll_2 oI_0 ?_
  refine A_istore_n dX2_inAll_3 (Nat.le_of_ble_eq_true rfl) rfl ?_
  exact (a_X2_inAll_b4 (l := l) fu x1  fu _ _ _).sub ⟨rfl, rfl, rfl, rfl, trivial⟩
theorem a_X2_inAll {l : Launch} (fu : Nat)  (x1 : Int32) (M : xM)  : AM SC l yX2_inAll cX2_inAll 4 (some .int) 5 ki [xr 6, xi x1] M (F_X2_inAll fu x1  M) :=
  AM.of (L0 := [some (xr 6), some (xi x1), none, none]) (w_X2_inAll (l := l) fu x1  M ) (by decide +kernel) rfl (Nat.le_of_ble_eq_true rfl) ⟨rfl, rfl, trivial⟩
def F_X2_inSome_b35 (fu : Nat)  (x1 : Int32) (k4 : Int32 → Int32 → xM → Option (Int32 × xM)) (x2 : Int32) (x3 : Int32) (M : xM) : Option (Int32 × xM) :=
  k4 x2 (x3 + (1 : Int32)) M
set_option maxRecDepth 100000 in
set_option maxHeartbeats 4000000 in
theorem a_X2_inSome_b35 {l : Launch} (fu : Nat) (x1 : Int32)  {k4 : Int32 → Int32 → xM → Option (Int32 × xM)} (hk4 : ∀ (b0 : Int32) (b1 : Int32) (M : xM), AW SC l RX2 cX2_inSome 4 (some .int) 5 ki (k4 b0 b1 M) 4 [some (xr 6), some (xi x1), some (xi b0), some (xi b1)] [] M) (x2 : Int32) (x3 : Int32) (M : xM)  : AW SC l RX2 cX2_inSome 4 (some .int) 5 ki (F_X2_inSome_b35 fu x1 k4 x2 x3 M) 35 [some (xr 6), some (xi x1), some (xi x2), some (xi x3)] [] M := by
  unfold F_X2_inSome_b35
  refine A_iinc dX2_inSome_35 rfl oI_1 (Nat.le_of_ble_eq_true rfl) rfl ?_
  refine A_goto (tgt := 4) dX2_inSome_38 (by decide) ?_
  exact (hk4 _ _ _).sub ⟨rfl, rfl, rfl, rfl, trivial⟩
def F_X2_inSome_b34 (fu : Nat)  (x1 : Int32) (k4 : Int32 → Int32 → xM → Option (Int32 × xM)) (x3 : Int32) (s0 : Int32) (M : xM) : Option (Int32 × xM) :=
  F_X2_inSome_b35 fu x1 k4 s0 x3 M
set_option maxRecDepth 100000 in
set_option maxHeartbeats 4000000 in
theorem a_X2_inSome_b34 {l : Launch} (fu : Nat) (x1 : Int32)  {k4 : Int32 → Int32 → xM → Option (Int32 × xM)} (hk4 : ∀ (b0 : Int32) (b1 : Int32) (M : xM), AW SC l RX2 cX2_inSome 4 (some .int) 5 ki (k4 b0 b1 M) 4 [some (xr 6), some (xi x1), some (xi b0), some (xi b1)] [] M) (x3 : Int32) (s0 : Int32) (M : xM)  : AW SC l RX2 cX2_inSome 4 (some .int) 5 ki (F_X2_inSome_b34 fu x1 k4 x3 s0 M) 34 [some (xr 6), some (xi x1), none, some (xi x3)] [xi s0] M := by
  unfold F_X2_inSome_b34
  refine A_istore_n dX2_inSome_34 (Nat.le_of_ble_eq_true rfl) rfl ?_
  exact (a_X2_inSome_b35 (l := l) fu x1 hk4 _ _ _ ).sub ⟨rfl, rfl, rfl, rfl, trivial⟩
def F_X2_inSome_b4 (fu : Nat)  (x1 : Int32)  : Nat → Int32 → Int32 → xM → Option (Int32 × xM)
  | 0, _, _, _ => none
  | n + 1, x2, x3, M =>
    (if (P_X2_setsOf x1 M) ≤ x3 then
    some (x2, M)
    else
    (F_X2_lay fu x1 x3 M).bind fun q1 =>
    (if q1.1 = 0 then
    F_X2_inSome_b35 fu x1 (F_X2_inSome_b4 fu x1 n) x2 x3 q1.2
    else
    (if x2 = (-1 : Int32) then
    F_X2_inSome_b34 fu x1 (F_X2_inSome_b4 fu x1 n) x3 x3 q1.2
    else
    F_X2_inSome_b34 fu x1 (F_X2_inSome_b4 fu x1 n) x3 (x2 ||| x3) q1.2)))
set_option maxRecDepth 100000 in
set_option maxHeartbeats 4000000 in
theorem a_X2_inSome_b4 {l : Launch} (fu : Nat) (x1 : Int32)    : ∀ (n : Nat) (x2 : Int32) (x3 : Int32) (M : xM), AW SC l RX2 cX2_inSome 4 (some .int) 5 ki (F_X2_inSome_b4 fu x1 n x2 x3 M) 4 [some (xr 6), some (xi x1), some (xi x2), some (xi x3)] [] M := by
  intro n
  induction n with
  | zero =>
    intro x2 x3 M
    exact AW.none
  | succ n ih =>
    intro x2 x3 M
    rw [F_X2_inSome_b4]
    refine A_iload_n dX2_inSome_4 rfl ?_
    refine A_aload_n dX2_inSome_5 rfl ?_
    refine A_iload_n dX2_inSome_6 rfl ?_
    refine A_callVp (a_X2_setsOf (l := l) _ _ ) lc_X2_55 rfl rfl (by decide) (Nat.le_of_ble_eq_true rfl) rfl dX2_inSome_7 ?_
    refine A_icmp_ge (tgt := 41) dX2_inSome_10 (by decide) (fun _ => ?_) (fun _ => ?_)
    · refine A_iload_n dX2_inSome_41 rfl ?_
      exact A_iret rfl dX2_inSome_42
    · refine A_aload_n dX2_inSome_13 rfl ?_
      refine A_iload_n dX2_inSome_14 rfl ?_
      refine A_iload_n dX2_inSome_15 rfl ?_
      refine A_callVi (a_X2_lay (l := l) fu _ _ _ ) lc_X2_140 rfl rfl (by decide) (Nat.le_of_ble_eq_true rfl) rfl dX2_inSome_16 (fun q1 Mq1 hq1 => ?_)
      refine A_if_eq (tgt := 35) dX2_inSome_19 (by decide) (fun _ => ?_) (fun _ => ?_)
      · exact (a_X2_inSome_b35 (l := l) fu x1 ih _ _ _ ).sub ⟨rfl, rfl, rfl, rfl, trivial⟩
      · refine A_iload_n dX2_inSome_22 rfl ?_
        refine A_iconst (v := (-1 : Int32)) dX2_inSome_23 oI_m1 ?_
        refine A_icmp_ne (tgt := 31) dX2_inSome_24 (by decide) (fun _ => ?_) (fun _ => ?_)
        · refine A_iload_n dX2_inSome_27 rfl ?_
          refine A_goto (tgt := 34) dX2_inSome_28 (by decide) ?_
          exact (a_X2_inSome_b34 (l := l) fu x1 ih _ _ _ ).sub ⟨rfl, rfl, rfl, trivial⟩
        · refine A_iload_n dX2_inSome_31 rfl ?_
          refine A_iload_n dX2_inSome_32 rfl ?_
          refine A_ior dX2_inSome_33 ?_
          exact (a_X2_inSome_b34 (l := l) fu x1 ih _ _ _ ).sub ⟨rfl, rfl, rfl, trivial⟩
def F_X2_inSome (fu : Nat)  (x1 : Int32)   (M : xM) : Option (Int32 × xM) :=
  F_X2_inSome_b4 fu x1 fu (-1 : Int32) (0 : Int32) M
set_option maxRecDepth 100000 in
set_option maxHeartbeats 4000000 in
theorem w_X2_inSome {l : Launch} (fu : Nat) (x1 : Int32)     (M : xM)  : AW SC l RX2 cX2_inSome 4 (some .int) 5 ki (F_X2_inSome fu x1  M) 0 [some (xr 6), some (xi x1), none, none] [] M := by
  unfold F_X2_inSome
  refine A_iconst (v := (-1 : Int32)) dX2_inSome_0 oI_m1 ?_
  refine A_istore_n dX2_inSome_1 (Nat.le_of_ble_eq_true rfl) rfl ?_
  refine A_iconst (v := (0 : Int32)) dX2_inSome_2 oI_0 ?_
  refine A_istore_n dX2_inSome_3 (Nat.le_of_ble_eq_true rfl) rfl ?_
  exact (a_X2_inSome_b4 (l := l) fu x1  fu _ _ _).sub ⟨rfl, rfl, rfl, rfl, trivial⟩
theorem a_X2_inSome {l : Launch} (fu : Nat)  (x1 : Int32) (M : xM)  : AM SC l yX2_inSome cX2_inSome 4 (some .int) 5 ki [xr 6, xi x1] M (F_X2_inSome fu x1  M) :=
  AM.of (L0 := [some (xr 6), some (xi x1), none, none]) (w_X2_inSome (l := l) fu x1  M ) (by decide +kernel) rfl (Nat.le_of_ble_eq_true rfl) ⟨rfl, rfl, trivial⟩
