theorem oS_200 : (Int16.ofInt (200)).toInt32 = (200 : Int32) := by decide +kernel
theorem lf_X10_11 : xfl RX10 11 9 3 (tyX10 3) true := ⟨_, _, _, _, xc_X10, by decide, rfl, rfl, rfl, lw_gm 396 (by decide +kernel) rfl⟩
theorem lf_X10_15 : xfl RX10 15 9 4 (tyX10 4) true := ⟨_, _, _, _, xc_X10, by decide, rfl, rfl, rfl, lw_gm 397 (by decide +kernel) rfl⟩
theorem lf_X10_18 : xfl RX10 18 9 5 (tyX10 5) true := ⟨_, _, _, _, xc_X10, by decide, rfl, rfl, rfl, lw_gm 398 (by decide +kernel) rfl⟩
theorem lf_X10_21 : xfl RX10 21 9 0 (tyX10 0) true := ⟨_, _, _, _, xc_X10, by decide, rfl, rfl, rfl, lw_gm 392 (by decide +kernel) rfl⟩
theorem lf_X10_25 : xfl RX10 25 9 1 (tyX10 1) true := ⟨_, _, _, _, xc_X10, by decide, rfl, rfl, rfl, lw_gm 393 (by decide +kernel) rfl⟩
theorem lf_X10_29 : xfl RX10 29 9 2 (tyX10 2) false := ⟨_, _, _, _, xc_X10, by decide, rfl, rfl, rfl, lw_gm 394 (by decide +kernel) rfl⟩
theorem lf_X10_61 : xfl RX10 61 0 0 (tyX0 0) true := ⟨_, _, _, _, xc_X0, by decide, rfl, rfl, rfl, lw_gm 147 (by decide +kernel) rfl⟩
theorem lc_X10_102 : xlS RX10 102 yX1_modulo cX1_modulo 2 (some .int) 2 := ⟨⟨lw_gm 1093 (by decide +kernel) rfl, lw_gm 106 (by decide +kernel) rfl, lw_gm 898 (by decide +kernel) rfl, ⟨by decide, by decide, by decide +kernel⟩, by decide⟩, lw_gm 897 (by decide +kernel) rfl⟩
theorem lc_X10_107 : xlV RX10 107 yX10_seenBy cX10_seenBy 5 (some .int) 2 9 := ⟨⟨lw_gm 1103 (by decide +kernel) rfl, lw_gm 114 (by decide +kernel) rfl, lw_gm 1070 (by decide +kernel) rfl, ⟨by decide, by decide, by decide +kernel⟩, by decide⟩, lw_gm 1068 (by decide +kernel) rfl, lw_gm 1069 (by decide +kernel) rfl, _, _, rfl⟩
theorem lc_X10_110 : xlS RX10 110 yX1_all cX1_all 1 (some .int) 1 := ⟨⟨lw_gm 1104 (by decide +kernel) rfl, lw_gm 106 (by decide +kernel) rfl, lw_gm 512 (by decide +kernel) rfl, ⟨by decide, by decide, by decide +kernel⟩, by decide⟩, lw_gm 511 (by decide +kernel) rfl⟩
theorem lc_X10_113 : xlS RX10 113 yX1_better cX1_better 5 (some .boolean) 2 := ⟨⟨lw_gm 1105 (by decide +kernel) rfl, lw_gm 106 (by decide +kernel) rfl, lw_gm 593 (by decide +kernel) rfl, ⟨by decide, by decide, by decide +kernel⟩, by decide⟩, lw_gm 592 (by decide +kernel) rfl⟩
theorem lc_X10_116 : xlV RX10 116 yX10_seenByAnyOf cX10_seenByAnyOf 4 (some .int) 1 9 := ⟨⟨lw_gm 1106 (by decide +kernel) rfl, lw_gm 114 (by decide +kernel) rfl, lw_gm 1109 (by decide +kernel) rfl, ⟨by decide, by decide, by decide +kernel⟩, by decide⟩, lw_gm 1108 (by decide +kernel) rfl, lw_gm 30 (by decide +kernel) rfl, _, _, rfl⟩
theorem lc_X10_33 : xlS RX10 33 yX1_within cX1_within 3 (some .boolean) 3 := ⟨⟨lw_gm 1057 (by decide +kernel) rfl, lw_gm 106 (by decide +kernel) rfl, lw_gm 518 (by decide +kernel) rfl, ⟨by decide, by decide, by decide +kernel⟩, by decide⟩, lw_gm 517 (by decide +kernel) rfl⟩
theorem lc_X10_39 : xlV RX10 39 yX0_isRow cX0_isRow 2 (some .boolean) 1 0 := ⟨⟨lw_gm 1056 (by decide +kernel) rfl, lw_gm 105 (by decide +kernel) rfl, lw_gm 509 (by decide +kernel) rfl, ⟨by decide, by decide, by decide +kernel⟩, by decide⟩, lw_gm 507 (by decide +kernel) rfl, lw_gm 508 (by decide +kernel) rfl, _, _, rfl⟩
theorem lc_X10_45 : xlS RX10 45 yX1_put cX1_put 3 none 3 := ⟨⟨lw_gm 1058 (by decide +kernel) rfl, lw_gm 106 (by decide +kernel) rfl, lw_gm 527 (by decide +kernel) rfl, ⟨by decide, by decide, by decide +kernel⟩, by decide⟩, lw_gm 526 (by decide +kernel) rfl⟩
theorem lc_X10_49 : xlV RX10 49 yX5_faultsOf cX5_faultsOf 2 (some .int) 1 4 := ⟨⟨lw_gm 1071 (by decide +kernel) rfl, lw_gm 111 (by decide +kernel) rfl, lw_gm 822 (by decide +kernel) rfl, ⟨by decide, by decide, by decide +kernel⟩, by decide⟩, lw_gm 820 (by decide +kernel) rfl, lw_gm 821 (by decide +kernel) rfl, _, _, rfl⟩
theorem lc_X10_55 : xlV RX10 55 yX10_seesFault cX10_seesFault 5 (some .boolean) 3 9 := ⟨⟨lw_gm 1072 (by decide +kernel) rfl, lw_gm 114 (by decide +kernel) rfl, lw_gm 1075 (by decide +kernel) rfl, ⟨by decide, by decide, by decide +kernel⟩, by decide⟩, lw_gm 1074 (by decide +kernel) rfl, lw_gm 27 (by decide +kernel) rfl, _, _, rfl⟩
theorem lc_X10_58 : xlS RX10 58 yX1_bit cX1_bit 1 (some .int) 1 := ⟨⟨lw_gm 1094 (by decide +kernel) rfl, lw_gm 106 (by decide +kernel) rfl, lw_gm 515 (by decide +kernel) rfl, ⟨by decide, by decide, by decide +kernel⟩, by decide⟩, lw_gm 514 (by decide +kernel) rfl⟩
theorem lc_X10_64 : xlV RX10 64 yX0_isRuled cX0_isRuled 2 (some .boolean) 1 0 := ⟨⟨lw_gm 1076 (by decide +kernel) rfl, lw_gm 105 (by decide +kernel) rfl, lw_gm 886 (by decide +kernel) rfl, ⟨by decide, by decide, by decide +kernel⟩, by decide⟩, lw_gm 884 (by decide +kernel) rfl, lw_gm 885 (by decide +kernel) rfl, _, _, rfl⟩
theorem lc_X10_67 : xlV RX10 67 yX10_shows cX10_shows 9 (some .int) 4 9 := ⟨⟨lw_gm 1077 (by decide +kernel) rfl, lw_gm 114 (by decide +kernel) rfl, lw_gm 1080 (by decide +kernel) rfl, ⟨by decide, by decide, by decide +kernel⟩, by decide⟩, lw_gm 1079 (by decide +kernel) rfl, lw_gm 28 (by decide +kernel) rfl, _, _, rfl⟩
theorem lc_X10_71 : xlV RX10 71 yX10_pulls cX10_pulls 6 (some .int) 3 9 := ⟨⟨lw_gm 1085 (by decide +kernel) rfl, lw_gm 114 (by decide +kernel) rfl, lw_gm 1088 (by decide +kernel) rfl, ⟨by decide, by decide, by decide +kernel⟩, by decide⟩, lw_gm 1087 (by decide +kernel) rfl, lw_gm 29 (by decide +kernel) rfl, _, _, rfl⟩
theorem lc_X10_75 : xlS RX10 75 yX1_at cX1_at 2 (some .int) 2 := ⟨⟨lw_gm 1089 (by decide +kernel) rfl, lw_gm 106 (by decide +kernel) rfl, lw_gm 560 (by decide +kernel) rfl, ⟨by decide, by decide, by decide +kernel⟩, by decide⟩, lw_gm 559 (by decide +kernel) rfl⟩
theorem lc_X10_79 : xlS RX10 79 yX1_has cX1_has 2 (some .boolean) 2 := ⟨⟨lw_gm 1090 (by decide +kernel) rfl, lw_gm 106 (by decide +kernel) rfl, lw_gm 858 (by decide +kernel) rfl, ⟨by decide, by decide, by decide +kernel⟩, by decide⟩, lw_gm 857 (by decide +kernel) rfl⟩
theorem lc_X10_83 : xlV RX10 83 yX0_strapsAgainst cX0_strapsAgainst 7 (some .int) 2 0 := ⟨⟨lw_gm 1091 (by decide +kernel) rfl, lw_gm 105 (by decide +kernel) rfl, lw_gm 557 (by decide +kernel) rfl, ⟨by decide, by decide, by decide +kernel⟩, by decide⟩, lw_gm 555 (by decide +kernel) rfl, lw_gm 556 (by decide +kernel) rfl, _, _, rfl⟩
theorem lc_X10_87 : xlV RX10 87 yX5_firstOf cX5_firstOf 3 (some .int) 2 4 := ⟨⟨lw_gm 1081 (by decide +kernel) rfl, lw_gm 111 (by decide +kernel) rfl, lw_gm 862 (by decide +kernel) rfl, ⟨by decide, by decide, by decide +kernel⟩, by decide⟩, lw_gm 860 (by decide +kernel) rfl, lw_gm 861 (by decide +kernel) rfl, _, _, rfl⟩
theorem lc_X10_90 : xlV RX10 90 yX5_secondOf cX5_secondOf 3 (some .int) 2 4 := ⟨⟨lw_gm 1082 (by decide +kernel) rfl, lw_gm 111 (by decide +kernel) rfl, lw_gm 870 (by decide +kernel) rfl, ⟨by decide, by decide, by decide +kernel⟩, by decide⟩, lw_gm 868 (by decide +kernel) rfl, lw_gm 869 (by decide +kernel) rfl, _, _, rfl⟩
theorem lc_X10_93 : xlV RX10 93 yX5_kindOf cX5_kindOf 3 (some .int) 2 4 := ⟨⟨lw_gm 1083 (by decide +kernel) rfl, lw_gm 111 (by decide +kernel) rfl, lw_gm 866 (by decide +kernel) rfl, ⟨by decide, by decide, by decide +kernel⟩, by decide⟩, lw_gm 864 (by decide +kernel) rfl, lw_gm 865 (by decide +kernel) rfl, _, _, rfl⟩
theorem lc_X10_96 : xlV RX10 96 yX0_leversOf cX0_leversOf 2 (some .int) 1 0 := ⟨⟨lw_gm 1084 (by decide +kernel) rfl, lw_gm 105 (by decide +kernel) rfl, lw_gm 569 (by decide +kernel) rfl, ⟨by decide, by decide, by decide +kernel⟩, by decide⟩, lw_gm 567 (by decide +kernel) rfl, lw_gm 568 (by decide +kernel) rfl, _, _, rfl⟩
theorem lc_X10_99 : xlS RX10 99 yX5_wheel cX5_wheel 1 (some .int) 1 := ⟨⟨lw_gm 1092 (by decide +kernel) rfl, lw_gm 111 (by decide +kernel) rfl, lw_gm 878 (by decide +kernel) rfl, ⟨by decide, by decide, by decide +kernel⟩, by decide⟩, lw_gm 877 (by decide +kernel) rfl⟩
def P_X10_isTest  (x1 : Int32)   (M : xM) : Int32 :=
  (P_X1_within x1 (0 : Int32) ((M 8 2) - (1 : Int32)) M)
set_option maxRecDepth 100000 in
set_option maxHeartbeats 4000000 in
theorem w_X10_isTest {l : Launch} (x1 : Int32)     (M : xM)  : AW SC l RX10 cX10_isTest 2 (some .boolean) 1 ki (some (P_X10_isTest x1  M, M)) 0 [some (xr 8), some (xi x1)] [] M := by
  unfold P_X10_isTest
  refine A_iload_n dX10_isTest_0 rfl ?_
  refine A_iconst (v := (0 : Int32)) dX10_isTest_1 oI_0 ?_
  refine A_aload_n dX10_isTest_2 rfl ?_
  refine A_geti lf_X10_29 rfl rfl dX10_isTest_3 ?_
  refine A_iconst (v := (1 : Int32)) dX10_isTest_6 oI_1 ?_
  refine A_isub dX10_isTest_7 ?_
  refine A_callSp (a_X1_within (S := SC) (l := l) _ _ _ _ ) lc_X10_33 rfl (by decide) (Nat.le_of_ble_eq_true rfl) rfl dX10_isTest_8 ?_
  exact A_zret' rfl (zP_X1_within _ _ _ _) dX10_isTest_11
theorem a_X10_isTest {l : Launch}  (x1 : Int32) (M : xM)  : AM SC l yX10_isTest cX10_isTest 2 (some .boolean) 1 ki [xr 8, xi x1] M (some (P_X10_isTest  x1  M, M)) :=
  AM.of (L0 := [some (xr 8), some (xi x1)]) (w_X10_isTest (l := l) x1  M ) (by decide +kernel) rfl (Nat.le_of_ble_eq_true rfl) ⟨rfl, rfl, trivial⟩
theorem zP_X10_isTest (x1 : Int32) (M : xM) : P_X10_isTest x1 M = 0 ∨ P_X10_isTest x1 M = 1 := by
  unfold P_X10_isTest
  repeat' split
  all_goals first | decide | with_reducible exact zP_X1_within _ _ _ _
def F_X10_add  (x1 : Int32) (x2 : Int32)   (M : xM) : Option (Int32 × xM) :=
  (if (P_X0_isRow x1 M) = 0 then
  some ((-1 : Int32), M)
  else
  (if (P_X1_within x2 (0 : Int32) (200 : Int32) M) = 0 then
  some ((-1 : Int32), M)
  else
  (if (M 8 2) < (8 : Int32) then
  (F_X1_put 43 8 (M 8 2) x1 M).bind fun q1 =>
  (F_X1_put 44 8 (q1 8 2) x2 q1).bind fun q2 =>
  some ((q2 8 2), (xset q2 8 2 ((q2 8 2) + (1 : Int32))))
  else
  some ((-1 : Int32), M))))
set_option maxRecDepth 100000 in
set_option maxHeartbeats 4000000 in
theorem w_X10_add {l : Launch} (x1 : Int32) (x2 : Int32)     (M : xM)  : AW SC l RX10 cX10_add 3 (some .int) 3 ki (F_X10_add x1 x2  M) 0 [some (xr 8), some (xi x1), some (xi x2)] [] M := by
  unfold F_X10_add
  refine A_aload_n dX10_add_0 rfl ?_
  refine A_getr lf_X10_21 rfl rfl dX10_add_1 ?_
  refine A_iload_n dX10_add_4 rfl ?_
  refine A_callVp (a_X0_isRow (l := l) _ _ ) lc_X10_39 rfl rfl (by decide) (Nat.le_of_ble_eq_true rfl) rfl dX10_add_5 ?_
  refine A_if_eq (tgt := 31) dX10_add_8 (by decide) (fun _ => ?_) (fun _ => ?_)
  · refine A_iconst (v := (-1 : Int32)) dX10_add_31 oI_m1 ?_
    exact A_iret rfl dX10_add_32
  · refine A_iload_n dX10_add_11 rfl ?_
    refine A_iconst (v := (0 : Int32)) dX10_add_12 oI_0 ?_
    refine A_sipush (v := (200 : Int32)) dX10_add_13 oS_200 ?_
    refine A_callSp (a_X1_within (S := SC) (l := l) _ _ _ _ ) lc_X10_33 rfl (by decide) (Nat.le_of_ble_eq_true rfl) rfl dX10_add_16 ?_
    refine A_if_eq (tgt := 31) dX10_add_19 (by decide) (fun _ => ?_) (fun _ => ?_)
    · refine A_iconst (v := (-1 : Int32)) dX10_add_31 oI_m1 ?_
      exact A_iret rfl dX10_add_32
    · refine A_aload_n dX10_add_22 rfl ?_
      refine A_geti lf_X10_29 rfl rfl dX10_add_23 ?_
      refine A_bipush (v := (8 : Int32)) dX10_add_26 oB_8 ?_
      refine A_icmp_lt (tgt := 33) dX10_add_28 (by decide) (fun _ => ?_) (fun _ => ?_)
      · refine A_aload_n dX10_add_33 rfl ?_
        refine A_getr lf_X10_11 rfl rfl dX10_add_34 ?_
        refine A_aload_n dX10_add_37 rfl ?_
        refine A_geti lf_X10_29 rfl rfl dX10_add_38 ?_
        refine A_iload_n dX10_add_41 rfl ?_
        refine A_callSv (a_X1_put (S := SC) (l := l) _ _ _ _ _ rfl) lc_X10_45 rfl (by decide) (Nat.le_of_ble_eq_true rfl) rfl dX10_add_42 (fun q1 hq1 => ?_)
        refine A_aload_n dX10_add_45 rfl ?_
        refine A_getr lf_X10_15 rfl rfl dX10_add_46 ?_
        refine A_aload_n dX10_add_49 rfl ?_
        refine A_geti lf_X10_29 rfl rfl dX10_add_50 ?_
        refine A_iload_n dX10_add_53 rfl ?_
        refine A_callSv (a_X1_put (S := SC) (l := l) _ _ _ _ _ rfl) lc_X10_45 rfl (by decide) (Nat.le_of_ble_eq_true rfl) rfl dX10_add_54 (fun q2 hq2 => ?_)
        refine A_aload_n dX10_add_57 rfl ?_
        refine A_dup dX10_add_58 rfl ?_
        refine A_geti lf_X10_29 rfl rfl dX10_add_59 ?_
        refine A_dup_x1 dX10_add_62 rfl rfl ?_
        refine A_iconst (v := (1 : Int32)) dX10_add_63 oI_1 ?_
        refine A_iadd dX10_add_64 ?_
        refine A_puti lf_X10_29 rfl rfl dX10_add_65 ?_
        exact A_iret rfl dX10_add_68
      · refine A_iconst (v := (-1 : Int32)) dX10_add_31 oI_m1 ?_
        exact A_iret rfl dX10_add_32
theorem a_X10_add {l : Launch}  (x1 : Int32) (x2 : Int32) (M : xM)  : AM SC l yX10_add cX10_add 3 (some .int) 3 ki [xr 8, xi x1, xi x2] M (F_X10_add  x1 x2  M) :=
  AM.of (L0 := [some (xr 8), some (xi x1), some (xi x2)]) (w_X10_add (l := l) x1 x2  M ) (by decide +kernel) rfl (Nat.le_of_ble_eq_true rfl) ⟨rfl, rfl, rfl, trivial⟩
def F_X10_pulls_b37 (fu : Nat)  (x1 : Int32) (x2 : Int32) (x3 : Int32)  (s0 : Int32) (M : xM) : Option (Int32 × xM) :=
  (if s0 = 0 then
  some ((0 : Int32), M)
  else
  some ((P_X1_at 44 8 x1 M), M))
set_option maxRecDepth 100000 in
set_option maxHeartbeats 4000000 in
theorem a_X10_pulls_b37 {l : Launch} (fu : Nat) (x1 : Int32) (x2 : Int32) (x3 : Int32)    (s0 : Int32) (M : xM)  : AW SC l RX10 cX10_pulls 6 (some .int) 2 ki (F_X10_pulls_b37 fu x1 x2 x3 s0 M) 37 [some (xr 8), some (xi x1), none, none, none, none] [xi s0] M := by
  unfold F_X10_pulls_b37
  refine A_istore dX10_pulls_37 (Nat.le_of_ble_eq_true rfl) rfl ?_
  refine A_iload dX10_pulls_39 rfl ?_
  refine A_if_eq (tgt := 55) dX10_pulls_41 (by decide) (fun _ => ?_) (fun _ => ?_)
  · refine A_iconst (v := (0 : Int32)) dX10_pulls_55 oI_0 ?_
    exact A_iret rfl dX10_pulls_56
  · refine A_aload_n dX10_pulls_44 rfl ?_
    refine A_getr lf_X10_15 rfl rfl dX10_pulls_45 ?_
    refine A_iload_n dX10_pulls_48 rfl ?_
    refine A_callSp (a_X1_at (S := SC) (l := l) _ _ _ _ rfl) lc_X10_75 rfl (by decide) (Nat.le_of_ble_eq_true rfl) rfl dX10_pulls_49 ?_
    refine A_goto (tgt := 56) dX10_pulls_52 (by decide) ?_
    exact A_iret rfl dX10_pulls_56
def F_X10_pulls_b36 (fu : Nat)  (x1 : Int32) (x2 : Int32) (x3 : Int32)   (M : xM) : Option (Int32 × xM) :=
  F_X10_pulls_b37 fu x1 x2 x3 (0 : Int32) M
set_option maxRecDepth 100000 in
set_option maxHeartbeats 4000000 in
theorem a_X10_pulls_b36 {l : Launch} (fu : Nat) (x1 : Int32) (x2 : Int32) (x3 : Int32)     (M : xM)  : AW SC l RX10 cX10_pulls 6 (some .int) 2 ki (F_X10_pulls_b36 fu x1 x2 x3  M) 36 [some (xr 8), some (xi x1), none, none, none, none] [] M := by
  unfold F_X10_pulls_b36
  refine A_iconst (v := (0 : Int32)) dX10_pulls_36 oI_0 ?_
  exact (a_X10_pulls_b37 (l := l) fu x1 x2 x3  _ _ ).sub ⟨rfl, rfl, trivial⟩
def F_X10_pulls (fu : Nat)  (x1 : Int32) (x2 : Int32) (x3 : Int32)   (M : xM) : Option (Int32 × xM) :=
  (if (P_X1_has (P_X1_at 43 8 x1 M) x2 M) = 0 then
  F_X10_pulls_b36 fu x1 x2 x3  M
  else
  (F_X0_strapsAgainst fu (P_X1_at 43 8 x1 M) x3 M).bind fun q1 =>
  (if q1.1 = 0 then
  F_X10_pulls_b37 fu x1 x2 x3 (1 : Int32) q1.2
  else
  F_X10_pulls_b36 fu x1 x2 x3  q1.2))
set_option maxRecDepth 100000 in
set_option maxHeartbeats 4000000 in
theorem w_X10_pulls {l : Launch} (fu : Nat) (x1 : Int32) (x2 : Int32) (x3 : Int32)     (M : xM)  : AW SC l RX10 cX10_pulls 6 (some .int) 2 ki (F_X10_pulls fu x1 x2 x3  M) 0 [some (xr 8), some (xi x1), some (xi x2), some (xi x3), none, none] [] M := by
  unfold F_X10_pulls
  refine A_aload_n dX10_pulls_0 rfl ?_
  refine A_getr lf_X10_11 rfl rfl dX10_pulls_1 ?_
  refine A_iload_n dX10_pulls_4 rfl ?_
  refine A_callSp (a_X1_at (S := SC) (l := l) _ _ _ _ rfl) lc_X10_75 rfl (by decide) (Nat.le_of_ble_eq_true rfl) rfl dX10_pulls_5 ?_
  refine A_istore dX10_pulls_8 (Nat.le_of_ble_eq_true rfl) rfl ?_
  refine A_iload dX10_pulls_10 rfl ?_
  refine A_iload_n dX10_pulls_12 rfl ?_
  refine A_callSp (a_X1_has (S := SC) (l := l) _ _ _ ) lc_X10_79 rfl (by decide) (Nat.le_of_ble_eq_true rfl) rfl dX10_pulls_13 ?_
  refine A_if_eq (tgt := 36) dX10_pulls_16 (by decide) (fun _ => ?_) (fun _ => ?_)
  · exact (a_X10_pulls_b36 (l := l) fu x1 x2 x3   _ ).sub ⟨rfl, rfl, trivial⟩
  · refine A_aload_n dX10_pulls_19 rfl ?_
    refine A_getr lf_X10_21 rfl rfl dX10_pulls_20 ?_
    refine A_iload dX10_pulls_23 rfl ?_
    refine A_iload_n dX10_pulls_25 rfl ?_
    refine A_callVi (a_X0_strapsAgainst (l := l) fu _ _ _ ) lc_X10_83 rfl rfl (by decide) (Nat.le_of_ble_eq_true rfl) rfl dX10_pulls_26 (fun q1 Mq1 hq1 => ?_)
    refine A_if_ne (tgt := 36) dX10_pulls_29 (by decide) (fun _ => ?_) (fun _ => ?_)
    · refine A_iconst (v := (1 : Int32)) dX10_pulls_32 oI_1 ?_
      refine A_goto (tgt := 37) dX10_pulls_33 (by decide) ?_
      exact (a_X10_pulls_b37 (l := l) fu x1 x2 x3  _ _ ).sub ⟨rfl, rfl, trivial⟩
    · exact (a_X10_pulls_b36 (l := l) fu x1 x2 x3   _ ).sub ⟨rfl, rfl, trivial⟩
theorem a_X10_pulls {l : Launch} (fu : Nat)  (x1 : Int32) (x2 : Int32) (x3 : Int32) (M : xM)  : AM SC l yX10_pulls cX10_pulls 6 (some .int) 2 ki [xr 8, xi x1, xi x2, xi x3] M (F_X10_pulls fu x1 x2 x3  M) :=
  AM.of (L0 := [some (xr 8), some (xi x1), some (xi x2), some (xi x3), none, none]) (w_X10_pulls (l := l) fu x1 x2 x3  M ) (by decide +kernel) rfl (Nat.le_of_ble_eq_true rfl) ⟨rfl, rfl, rfl, rfl, trivial⟩
def F_X10_shows_b78 (fu : Nat)  (x1 : Int32) (x2 : Int32) (x3 : Int32) (x4 : Int32)  (x5 : Int32) (x6 : Int32) (x7 : Int32) (M : xM) : Option (Int32 × xM) :=
  (F_X10_pulls fu x1 x4 (0 : Int32) M).bind fun q1 =>
  (if x4 = x5 then
  (if x7 = (0 : Int32) then
  some ((P_X1_modulo q1.1 (P_X5_wheel x6 q1.2) q1.2), q1.2)
  else
  (if x7 = (1 : Int32) then
  (F_X10_pulls fu x1 x6 (0 : Int32) q1.2).bind fun q2 =>
  some (q2.1, q2.2)
  else
  (if x7 = (2 : Int32) then
  some ((0 : Int32), q1.2)
  else
  some ((P_X1_modulo (x6 + q1.1) (1000 : Int32) q1.2), q1.2))))
  else
  some (q1.1, q1.2))
set_option maxRecDepth 100000 in
set_option maxHeartbeats 4000000 in
theorem a_X10_shows_b78 {l : Launch} (fu : Nat) (x1 : Int32) (x2 : Int32) (x3 : Int32) (x4 : Int32)    (x5 : Int32) (x6 : Int32) (x7 : Int32) (M : xM)  : AW SC l RX10 cX10_shows 9 (some .int) 3 ki (F_X10_shows_b78 fu x1 x2 x3 x4 x5 x6 x7 M) 78 [some (xr 8), some (xi x1), none, none, some (xi x4), some (xi x5), some (xi x6), some (xi x7), none] [] M := by
  unfold F_X10_shows_b78
  refine A_aload_n dX10_shows_78 rfl ?_
  refine A_iload_n dX10_shows_79 rfl ?_
  refine A_iload dX10_shows_80 rfl ?_
  refine A_iconst (v := (0 : Int32)) dX10_shows_82 oI_0 ?_
  refine A_callVi (a_X10_pulls (l := l) fu _ _ _ _ ) lc_X10_71 rfl rfl (by decide) (Nat.le_of_ble_eq_true rfl) rfl dX10_shows_83 (fun q1 Mq1 hq1 => ?_)
  refine A_istore dX10_shows_86 (Nat.le_of_ble_eq_true rfl) rfl ?_
  refine A_iload dX10_shows_88 rfl ?_
  refine A_iload dX10_shows_90 rfl ?_
  refine A_icmp_eq (tgt := 98) dX10_shows_92 (by decide) (fun _ => ?_) (fun _ => ?_)
  · refine A_iload dX10_shows_98 rfl ?_
    refine AW.ite (fun e => ?_) (fun e0 => ?_)
    · refine A_tableIn (off := 28) (tgt := 128) dX10_shows_100 (by rw [e]; decide) (by rw [e]; decide) (by rw [e]; rfl) (by decide) ?_
      refine A_iload dX10_shows_128 rfl ?_
      refine A_iload dX10_shows_130 rfl ?_
      refine A_callSp (a_X5_wheel (l := l) _ _ ) lc_X10_99 rfl (by decide) (Nat.le_of_ble_eq_true rfl) rfl dX10_shows_132 ?_
      refine A_callSp (a_X1_modulo (S := SC) (l := l) _ _ _ ) lc_X10_102 rfl (by decide) (Nat.le_of_ble_eq_true rfl) rfl dX10_shows_135 ?_
      exact A_iret rfl dX10_shows_138
    · refine AW.ite (fun e => ?_) (fun e1 => ?_)
      · refine A_tableIn (off := 39) (tgt := 139) dX10_shows_100 (by rw [e]; decide) (by rw [e]; decide) (by rw [e]; rfl) (by decide) ?_
        refine A_aload_n dX10_shows_139 rfl ?_
        refine A_iload_n dX10_shows_140 rfl ?_
        refine A_iload dX10_shows_141 rfl ?_
        refine A_iconst (v := (0 : Int32)) dX10_shows_143 oI_0 ?_
        refine A_callVi (a_X10_pulls (l := l) fu _ _ _ _ ) lc_X10_71 rfl rfl (by decide) (Nat.le_of_ble_eq_true rfl) rfl dX10_shows_144 (fun q2 Mq2 hq2 => ?_)
        exact A_iret rfl dX10_shows_147
      · refine AW.ite (fun e => ?_) (fun e2 => ?_)
        · refine A_tableIn (off := 48) (tgt := 148) dX10_shows_100 (by rw [e]; decide) (by rw [e]; decide) (by rw [e]; rfl) (by decide) ?_
          refine A_iconst (v := (0 : Int32)) dX10_shows_148 oI_0 ?_
          exact A_iret rfl dX10_shows_149
        · refine A_tableOut (tgt := 150) dX10_shows_100 (by have z0 := xne (k := 0) (by decide) e0; have z1 := xne (k := 1) (by decide) e1; have z2 := xne (k := 2) (by decide) e2; omega) (by decide) ?_
          refine A_iload dX10_shows_150 rfl ?_
          refine A_iload dX10_shows_152 rfl ?_
          refine A_iadd dX10_shows_154 ?_
          refine A_sipush (v := (1000 : Int32)) dX10_shows_155 oS_1000 ?_
          refine A_callSp (a_X1_modulo (S := SC) (l := l) _ _ _ ) lc_X10_102 rfl (by decide) (Nat.le_of_ble_eq_true rfl) rfl dX10_shows_158 ?_
          exact A_iret rfl dX10_shows_161
  · refine A_iload dX10_shows_95 rfl ?_
    exact A_iret rfl dX10_shows_97
def F_X10_shows (fu : Nat)  (x1 : Int32) (x2 : Int32) (x3 : Int32) (x4 : Int32)   (M : xM) : Option (Int32 × xM) :=
  (if (P_X5_kindOf x2 x3 M) = (4 : Int32) then
  (F_X10_pulls fu x1 x4 (P_X0_leversOf (P_X5_firstOf x2 x3 M) M) M).bind fun q2 =>
  some (q2.1, q2.2)
  else
  (if (P_X5_kindOf x2 x3 M) = (1 : Int32) then
  (if x4 = (P_X5_secondOf x2 x3 M) then
  (F_X10_pulls fu x1 (P_X5_firstOf x2 x3 M) (0 : Int32) M).bind fun q1 =>
  some (q1.1, q1.2)
  else
  F_X10_shows_b78 fu x1 x2 x3 x4 (P_X5_firstOf x2 x3 M) (P_X5_secondOf x2 x3 M) (P_X5_kindOf x2 x3 M) M)
  else
  F_X10_shows_b78 fu x1 x2 x3 x4 (P_X5_firstOf x2 x3 M) (P_X5_secondOf x2 x3 M) (P_X5_kindOf x2 x3 M) M))
set_option maxRecDepth 100000 in
set_option maxHeartbeats 4000000 in
theorem w_X10_shows {l : Launch} (fu : Nat) (x1 : Int32) (x2 : Int32) (x3 : Int32) (x4 : Int32)     (M : xM)  : AW SC l RX10 cX10_shows 9 (some .int) 3 ki (F_X10_shows fu x1 x2 x3 x4  M) 0 [some (xr 8), some (xi x1), some (xi x2), some (xi x3), some (xi x4), none, none, none, none] [] M := by
  unfold F_X10_shows
  refine A_aload_n dX10_shows_0 rfl ?_
  refine A_getr lf_X10_25 rfl rfl dX10_shows_1 ?_
  refine A_iload_n dX10_shows_4 rfl ?_
  refine A_iload_n dX10_shows_5 rfl ?_
  refine A_callVp (a_X5_firstOf (l := l) _ _ _ ) lc_X10_87 rfl rfl (by decide) (Nat.le_of_ble_eq_true rfl) rfl dX10_shows_6 ?_
  refine A_istore dX10_shows_9 (Nat.le_of_ble_eq_true rfl) rfl ?_
  refine A_aload_n dX10_shows_11 rfl ?_
  refine A_getr lf_X10_25 rfl rfl dX10_shows_12 ?_
  refine A_iload_n dX10_shows_15 rfl ?_
  refine A_iload_n dX10_shows_16 rfl ?_
  refine A_callVp (a_X5_secondOf (l := l) _ _ _ ) lc_X10_90 rfl rfl (by decide) (Nat.le_of_ble_eq_true rfl) rfl dX10_shows_17 ?_
  refine A_istore dX10_shows_20 (Nat.le_of_ble_eq_true rfl) rfl ?_
  refine A_aload_n dX10_shows_22 rfl ?_
  refine A_getr lf_X10_25 rfl rfl dX10_shows_23 ?_
  refine A_iload_n dX10_shows_26 rfl ?_
  refine A_iload_n dX10_shows_27 rfl ?_
  refine A_callVp (a_X5_kindOf (l := l) _ _ _ ) lc_X10_93 rfl rfl (by decide) (Nat.le_of_ble_eq_true rfl) rfl dX10_shows_28 ?_
  refine A_istore dX10_shows_31 (Nat.le_of_ble_eq_true rfl) rfl ?_
  refine A_iload dX10_shows_33 rfl ?_
  refine A_iconst (v := (4 : Int32)) dX10_shows_35 oI_4 ?_
  refine A_icmp_ne (tgt := 56) dX10_shows_36 (by decide) (fun _ => ?_) (fun _ => ?_)
  · refine A_aload_n dX10_shows_39 rfl ?_
    refine A_iload_n dX10_shows_40 rfl ?_
    refine A_iload dX10_shows_41 rfl ?_
    refine A_aload_n dX10_shows_43 rfl ?_
    refine A_getr lf_X10_21 rfl rfl dX10_shows_44 ?_
    refine A_iload dX10_shows_47 rfl ?_
    refine A_callVp (a_X0_leversOf (l := l) _ _ ) lc_X10_96 rfl rfl (by decide) (Nat.le_of_ble_eq_true rfl) rfl dX10_shows_49 ?_
    refine A_callVi (a_X10_pulls (l := l) fu _ _ _ _ ) lc_X10_71 rfl rfl (by decide) (Nat.le_of_ble_eq_true rfl) rfl dX10_shows_52 (fun q2 Mq2 hq2 => ?_)
    exact A_iret rfl dX10_shows_55
  · refine A_iload dX10_shows_56 rfl ?_
    refine A_iconst (v := (1 : Int32)) dX10_shows_58 oI_1 ?_
    refine A_icmp_ne (tgt := 78) dX10_shows_59 (by decide) (fun _ => ?_) (fun _ => ?_)
    · refine A_iload dX10_shows_62 rfl ?_
      refine A_iload dX10_shows_64 rfl ?_
      refine A_icmp_ne (tgt := 78) dX10_shows_66 (by decide) (fun _ => ?_) (fun _ => ?_)
      · refine A_aload_n dX10_shows_69 rfl ?_
        refine A_iload_n dX10_shows_70 rfl ?_
        refine A_iload dX10_shows_71 rfl ?_
        refine A_iconst (v := (0 : Int32)) dX10_shows_73 oI_0 ?_
        refine A_callVi (a_X10_pulls (l := l) fu _ _ _ _ ) lc_X10_71 rfl rfl (by decide) (Nat.le_of_ble_eq_true rfl) rfl dX10_shows_74 (fun q1 Mq1 hq1 => ?_)
        exact A_iret rfl dX10_shows_77
      · exact (a_X10_shows_b78 (l := l) fu x1 x2 x3 x4  _ _ _ _ ).sub ⟨rfl, rfl, rfl, rfl, rfl, rfl, trivial⟩
    · exact (a_X10_shows_b78 (l := l) fu x1 x2 x3 x4  _ _ _ _ ).sub ⟨rfl, rfl, rfl, rfl, rfl, rfl, trivial⟩
theorem a_X10_shows {l : Launch} (fu : Nat)  (x1 : Int32) (x2 : Int32) (x3 : Int32) (x4 : Int32) (M : xM)  : AM SC l yX10_shows cX10_shows 9 (some .int) 3 ki [xr 8, xi x1, xi x2, xi x3, xi x4] M (F_X10_shows fu x1 x2 x3 x4  M) :=
  AM.of (L0 := [some (xr 8), some (xi x1), some (xi x2), some (xi x3), some (xi x4), none, none, none, none]) (w_X10_shows (l := l) fu x1 x2 x3 x4  M ) (by decide +kernel) rfl (Nat.le_of_ble_eq_true rfl) ⟨rfl, rfl, rfl, rfl, rfl, trivial⟩
def F_X10_seesFault_b49 (fu : Nat)  (x1 : Int32) (x2 : Int32) (x3 : Int32) (k3 : Int32 → xM → Option (Int32 × xM)) (x4 : Int32) (M : xM) : Option (Int32 × xM) :=
  k3 (x4 + (1 : Int32)) M
set_option maxRecDepth 100000 in
set_option maxHeartbeats 4000000 in
theorem a_X10_seesFault_b49 {l : Launch} (fu : Nat) (x1 : Int32) (x2 : Int32) (x3 : Int32)  {k3 : Int32 → xM → Option (Int32 × xM)} (hk3 : ∀ (b0 : Int32) (M : xM), AW SC l RX10 cX10_seesFault 5 (some .boolean) 4 ki (k3 b0 M) 3 [some (xr 8), some (xi x1), some (xi x2), some (xi x3), some (xi b0)] [] M) (x4 : Int32) (M : xM)  : AW SC l RX10 cX10_seesFault 5 (some .boolean) 4 ki (F_X10_seesFault_b49 fu x1 x2 x3 k3 x4 M) 49 [some (xr 8), some (xi x1), some (xi x2), some (xi x3), some (xi x4)] [] M := by
  unfold F_X10_seesFault_b49
  refine A_iinc dX10_seesFault_49 rfl oI_1 (Nat.le_of_ble_eq_true rfl) rfl ?_
  refine A_goto (tgt := 3) dX10_seesFault_52 (by decide) ?_
  exact (hk3 _ _).sub ⟨rfl, rfl, rfl, rfl, rfl, trivial⟩
def F_X10_seesFault_b3 (fu : Nat)  (x1 : Int32) (x2 : Int32) (x3 : Int32)  : Nat → Int32 → xM → Option (Int32 × xM)
  | 0, _, _ => none
  | n + 1, x4, M =>
    (if (M 1 0) ≤ x4 then
    some ((0 : Int32), M)
    else
    (if (P_X0_isRuled x4 M) = 0 then
    F_X10_seesFault_b49 fu x1 x2 x3 (F_X10_seesFault_b3 fu x1 x2 x3 n) x4 M
    else
    (F_X10_shows fu x1 x2 x3 x4 M).bind fun q1 =>
    (F_X10_pulls fu x1 x4 (0 : Int32) q1.2).bind fun q2 =>
    (if q1.1 = q2.1 then
    F_X10_seesFault_b49 fu x1 x2 x3 (F_X10_seesFault_b3 fu x1 x2 x3 n) x4 q2.2
    else
    some ((1 : Int32), q2.2))))
set_option maxRecDepth 100000 in
set_option maxHeartbeats 4000000 in
theorem a_X10_seesFault_b3 {l : Launch} (fu : Nat) (x1 : Int32) (x2 : Int32) (x3 : Int32)    : ∀ (n : Nat) (x4 : Int32) (M : xM), AW SC l RX10 cX10_seesFault 5 (some .boolean) 4 ki (F_X10_seesFault_b3 fu x1 x2 x3 n x4 M) 3 [some (xr 8), some (xi x1), some (xi x2), some (xi x3), some (xi x4)] [] M := by
  intro n
  induction n with
  | zero =>
    intro x4 M
    exact AW.none
  | succ n ih =>
    intro x4 M
    rw [F_X10_seesFault_b3]
    refine A_iload dX10_seesFault_3 rfl ?_
    refine A_aload_n dX10_seesFault_5 rfl ?_
    refine A_getr lf_X10_21 rfl rfl dX10_seesFault_6 ?_
    refine A_geti lf_X10_61 rfl rfl dX10_seesFault_9 ?_
    refine A_icmp_ge (tgt := 55) dX10_seesFault_12 (by decide) (fun _ => ?_) (fun _ => ?_)
    · refine A_iconst (v := (0 : Int32)) dX10_seesFault_55 oI_0 ?_
      exact A_zret' rfl (Or.inl rfl) dX10_seesFault_56
    · refine A_aload_n dX10_seesFault_15 rfl ?_
      refine A_getr lf_X10_21 rfl rfl dX10_seesFault_16 ?_
      refine A_iload dX10_seesFault_19 rfl ?_
      refine A_callVp (a_X0_isRuled (l := l) _ _ ) lc_X10_64 rfl rfl (by decide) (Nat.le_of_ble_eq_true rfl) rfl dX10_seesFault_21 ?_
      refine A_if_eq (tgt := 49) dX10_seesFault_24 (by decide) (fun _ => ?_) (fun _ => ?_)
      · exact (a_X10_seesFault_b49 (l := l) fu x1 x2 x3 ih _ _ ).sub ⟨rfl, rfl, rfl, rfl, rfl, trivial⟩
      · refine A_aload_n dX10_seesFault_27 rfl ?_
        refine A_iload_n dX10_seesFault_28 rfl ?_
        refine A_iload_n dX10_seesFault_29 rfl ?_
        refine A_iload_n dX10_seesFault_30 rfl ?_
        refine A_iload dX10_seesFault_31 rfl ?_
        refine A_callVi (a_X10_shows (l := l) fu _ _ _ _ _ ) lc_X10_67 rfl rfl (by decide) (Nat.le_of_ble_eq_true rfl) rfl dX10_seesFault_33 (fun q1 Mq1 hq1 => ?_)
        refine A_aload_n dX10_seesFault_36 rfl ?_
        refine A_iload_n dX10_seesFault_37 rfl ?_
        refine A_iload dX10_seesFault_38 rfl ?_
        refine A_iconst (v := (0 : Int32)) dX10_seesFault_40 oI_0 ?_
        refine A_callVi (a_X10_pulls (l := l) fu _ _ _ _ ) lc_X10_71 rfl rfl (by decide) (Nat.le_of_ble_eq_true rfl) rfl dX10_seesFault_41 (fun q2 Mq2 hq2 => ?_)
        refine A_icmp_eq (tgt := 49) dX10_seesFault_44 (by decide) (fun _ => ?_) (fun _ => ?_)
        · exact (a_X10_seesFault_b49 (l := l) fu x1 x2 x3 ih _ _ ).sub ⟨rfl, rfl, rfl, rfl, rfl, trivial⟩
        · refine A_iconst (v := (1 : Int32)) dX10_seesFault_47 oI_1 ?_
          exact A_zret' rfl (Or.inr rfl) dX10_seesFault_48
def F_X10_seesFault (fu : Nat)  (x1 : Int32) (x2 : Int32) (x3 : Int32)   (M : xM) : Option (Int32 × xM) :=
  F_X10_seesFault_b3 fu x1 x2 x3 fu (0 : Int32) M
set_option maxRecDepth 100000 in
set_option maxHeartbeats 4000000 in
theorem w_X10_seesFault {l : Launch} (fu : Nat) (x1 : Int32) (x2 : Int32) (x3 : Int32)     (M : xM)  : AW SC l RX10 cX10_seesFault 5 (some .boolean) 4 ki (F_X10_seesFault fu x1 x2 x3  M) 0 [some (xr 8), some (xi x1), some (xi x2), some (xi x3), none] [] M := by
  unfold F_X10_seesFault
  refine A_iconst (v := (0 : Int32)) dX10_seesFault_0 oI_0 ?_
  refine A_istore dX10_seesFault_1 (Nat.le_of_ble_eq_true rfl) rfl ?_
  exact (a_X10_seesFault_b3 (l := l) fu x1 x2 x3  fu _ _).sub ⟨rfl, rfl, rfl, rfl, rfl, trivial⟩
theorem a_X10_seesFault {l : Launch} (fu : Nat)  (x1 : Int32) (x2 : Int32) (x3 : Int32) (M : xM)  : AM SC l yX10_seesFault cX10_seesFault 5 (some .boolean) 4 ki [xr 8, xi x1, xi x2, xi x3] M (F_X10_seesFault fu x1 x2 x3  M) :=
  AM.of (L0 := [some (xr 8), some (xi x1), some (xi x2), some (xi x3), none]) (w_X10_seesFault (l := l) fu x1 x2 x3  M ) (by decide +kernel) rfl (Nat.le_of_ble_eq_true rfl) ⟨rfl, rfl, rfl, rfl, trivial⟩
def F_X10_seenBy_b37 (fu : Nat)  (x1 : Int32) (x2 : Int32) (k5 : Int32 → Int32 → xM → Option (Int32 × xM)) (x3 : Int32) (x4 : Int32) (M : xM) : Option (Int32 × xM) :=
  k5 x3 (x4 + (1 : Int32)) M
set_option maxRecDepth 100000 in
set_option maxHeartbeats 4000000 in
theorem a_X10_seenBy_b37 {l : Launch} (fu : Nat) (x1 : Int32) (x2 : Int32)  {k5 : Int32 → Int32 → xM → Option (Int32 × xM)} (hk5 : ∀ (b0 : Int32) (b1 : Int32) (M : xM), AW SC l RX10 cX10_seenBy 5 (some .int) 5 ki (k5 b0 b1 M) 5 [some (xr 8), some (xi x1), some (xi x2), some (xi b0), some (xi b1)] [] M) (x3 : Int32) (x4 : Int32) (M : xM)  : AW SC l RX10 cX10_seenBy 5 (some .int) 5 ki (F_X10_seenBy_b37 fu x1 x2 k5 x3 x4 M) 37 [some (xr 8), some (xi x1), some (xi x2), some (xi x3), some (xi x4)] [] M := by
  unfold F_X10_seenBy_b37
  refine A_iinc dX10_seenBy_37 rfl oI_1 (Nat.le_of_ble_eq_true rfl) rfl ?_
  refine A_goto (tgt := 5) dX10_seenBy_40 (by decide) ?_
  exact (hk5 _ _ _).sub ⟨rfl, rfl, rfl, rfl, rfl, trivial⟩
def F_X10_seenBy_b5 (fu : Nat)  (x1 : Int32) (x2 : Int32)  : Nat → Int32 → Int32 → xM → Option (Int32 × xM)
  | 0, _, _, _ => none
  | n + 1, x3, x4, M =>
    (if (P_X5_faultsOf x2 M) ≤ x4 then
    some (x3, M)
    else
    (F_X10_seesFault fu x1 x2 x4 M).bind fun q1 =>
    (if q1.1 = 0 then
    F_X10_seenBy_b37 fu x1 x2 (F_X10_seenBy_b5 fu x1 x2 n) x3 x4 q1.2
    else
    F_X10_seenBy_b37 fu x1 x2 (F_X10_seenBy_b5 fu x1 x2 n) (x3 ||| (P_X1_bit x4 q1.2)) x4 q1.2))
set_option maxRecDepth 100000 in
set_option maxHeartbeats 4000000 in
theorem a_X10_seenBy_b5 {l : Launch} (fu : Nat) (x1 : Int32) (x2 : Int32)    : ∀ (n : Nat) (x3 : Int32) (x4 : Int32) (M : xM), AW SC l RX10 cX10_seenBy 5 (some .int) 5 ki (F_X10_seenBy_b5 fu x1 x2 n x3 x4 M) 5 [some (xr 8), some (xi x1), some (xi x2), some (xi x3), some (xi x4)] [] M := by
  intro n
  induction n with
  | zero =>
    intro x3 x4 M
    exact AW.none
  | succ n ih =>
    intro x3 x4 M
    rw [F_X10_seenBy_b5]
    refine A_iload dX10_seenBy_5 rfl ?_
    refine A_aload_n dX10_seenBy_7 rfl ?_
    refine A_getr lf_X10_25 rfl rfl dX10_seenBy_8 ?_
    refine A_iload_n dX10_seenBy_11 rfl ?_
    refine A_callVp (a_X5_faultsOf (l := l) _ _ ) lc_X10_49 rfl rfl (by decide) (Nat.le_of_ble_eq_true rfl) rfl dX10_seenBy_12 ?_
    refine A_icmp_ge (tgt := 43) dX10_seenBy_15 (by decide) (fun _ => ?_) (fun _ => ?_)
    · refine A_iload_n dX10_seenBy_43 rfl ?_
      exact A_iret rfl dX10_seenBy_44
    · refine A_aload_n dX10_seenBy_18 rfl ?_
      refine A_iload_n dX10_seenBy_19 rfl ?_
      refine A_iload_n dX10_seenBy_20 rfl ?_
      refine A_iload dX10_seenBy_21 rfl ?_
      refine A_callVi (a_X10_seesFault (l := l) fu _ _ _ _ ) lc_X10_55 rfl rfl (by decide) (Nat.le_of_ble_eq_true rfl) rfl dX10_seenBy_23 (fun q1 Mq1 hq1 => ?_)
      refine A_if_eq (tgt := 37) dX10_seenBy_26 (by decide) (fun _ => ?_) (fun _ => ?_)
      · exact (a_X10_seenBy_b37 (l := l) fu x1 x2 ih _ _ _ ).sub ⟨rfl, rfl, rfl, rfl, rfl, trivial⟩
      · refine A_iload_n dX10_seenBy_29 rfl ?_
        refine A_iload dX10_seenBy_30 rfl ?_
        refine A_callSp (a_X1_bit (S := SC) (l := l) _ _ ) lc_X10_58 rfl (by decide) (Nat.le_of_ble_eq_true rfl) rfl dX10_seenBy_32 ?_
        refine A_ior dX10_seenBy_35 ?_
        refine A_istore_n dX10_seenBy_36 (Nat.le_of_ble_eq_true rfl) rfl ?_
        exact (a_X10_seenBy_b37 (l := l) fu x1 x2 ih _ _ _ ).sub ⟨rfl, rfl, rfl, rfl, rfl, trivial⟩
def F_X10_seenBy (fu : Nat)  (x1 : Int32) (x2 : Int32)   (M : xM) : Option (Int32 × xM) :=
  F_X10_seenBy_b5 fu x1 x2 fu (0 : Int32) (0 : Int32) M
set_option maxRecDepth 100000 in
set_option maxHeartbeats 4000000 in
theorem w_X10_seenBy {l : Launch} (fu : Nat) (x1 : Int32) (x2 : Int32)     (M : xM)  : AW SC l RX10 cX10_seenBy 5 (some .int) 5 ki (F_X10_seenBy fu x1 x2  M) 0 [some (xr 8), some (xi x1), some (xi x2), none, none] [] M := by
  unfold F_X10_seenBy
  refine A_iconst (v := (0 : Int32)) dX10_seenBy_0 oI_0 ?_
  refine A_istore_n dX10_seenBy_1 (Nat.le_of_ble_eq_true rfl) rfl ?_
  refine A_iconst (v := (0 : Int32)) dX10_seenBy_2 oI_0 ?_
  refine A_istore dX10_seenBy_3 (Nat.le_of_ble_eq_true rfl) rfl ?_
  exact (a_X10_seenBy_b5 (l := l) fu x1 x2  fu _ _ _).sub ⟨rfl, rfl, rfl, rfl, rfl, trivial⟩
theorem a_X10_seenBy {l : Launch} (fu : Nat)  (x1 : Int32) (x2 : Int32) (M : xM)  : AM SC l yX10_seenBy cX10_seenBy 5 (some .int) 5 ki [xr 8, xi x1, xi x2] M (F_X10_seenBy fu x1 x2  M) :=
  AM.of (L0 := [some (xr 8), some (xi x1), some (xi x2), none, none]) (w_X10_seenBy (l := l) fu x1 x2  M ) (by decide +kernel) rfl (Nat.le_of_ble_eq_true rfl) ⟨rfl, rfl, rfl, trivial⟩
def F_X10_seenByAnyOf_b31 (fu : Nat)  (x1 : Int32) (k4 : Int32 → Int32 → xM → Option (Int32 × xM)) (x2 : Int32) (x3 : Int32) (M : xM) : Option (Int32 × xM) :=
  k4 x2 (x3 + (1 : Int32)) M
set_option maxRecDepth 100000 in
set_option maxHeartbeats 4000000 in
theorem a_X10_seenByAnyOf_b31 {l : Launch} (fu : Nat) (x1 : Int32)  {k4 : Int32 → Int32 → xM → Option (Int32 × xM)} (hk4 : ∀ (b0 : Int32) (b1 : Int32) (M : xM), AW SC l RX10 cX10_seenByAnyOf 4 (some .int) 1 ki (k4 b0 b1 M) 4 [some (xr 8), some (xi x1), some (xi b0), some (xi b1)] [] M) (x2 : Int32) (x3 : Int32) (M : xM)  : AW SC l RX10 cX10_seenByAnyOf 4 (some .int) 1 ki (F_X10_seenByAnyOf_b31 fu x1 k4 x2 x3 M) 31 [some (xr 8), some (xi x1), some (xi x2), some (xi x3)] [] M := by
  unfold F_X10_seenByAnyOf_b31
  refine A_iinc dX10_seenByAnyOf_31 rfl oI_1 (Nat.le_of_ble_eq_true rfl) rfl ?_
  refine A_goto (tgt := 4) dX10_seenByAnyOf_34 (by decide) ?_
  exact (hk4 _ _ _).sub ⟨rfl, rfl, rfl, rfl, trivial⟩
def F_X10_seenByAnyOf_b4 (fu : Nat)  (x1 : Int32)  : Nat → Int32 → Int32 → xM → Option (Int32 × xM)
  | 0, _, _, _ => none
  | n + 1, x2, x3, M =>
    (if (M 8 2) ≤ x3 then
    some (x2, M)
    else
    (if (P_X1_has x1 x3 M) = 0 then
    F_X10_seenByAnyOf_b31 fu x1 (F_X10_seenByAnyOf_b4 fu x1 n) x2 x3 M
    else
    F_X10_seenByAnyOf_b31 fu x1 (F_X10_seenByAnyOf_b4 fu x1 n) (x2 ||| (P_X1_at 45 8 x3 M)) x3 M))
set_option maxRecDepth 100000 in
set_option maxHeartbeats 4000000 in
theorem a_X10_seenByAnyOf_b4 {l : Launch} (fu : Nat) (x1 : Int32)    : ∀ (n : Nat) (x2 : Int32) (x3 : Int32) (M : xM), AW SC l RX10 cX10_seenByAnyOf 4 (some .int) 1 ki (F_X10_seenByAnyOf_b4 fu x1 n x2 x3 M) 4 [some (xr 8), some (xi x1), some (xi x2), some (xi x3)] [] M := by
  intro n
  induction n with
  | zero =>
    intro x2 x3 M
    exact AW.none
  | succ n ih =>
    intro x2 x3 M
    rw [F_X10_seenByAnyOf_b4]
    refine A_iload_n dX10_seenByAnyOf_4 rfl ?_
    refine A_aload_n dX10_seenByAnyOf_5 rfl ?_
    refine A_geti lf_X10_29 rfl rfl dX10_seenByAnyOf_6 ?_
    refine A_icmp_ge (tgt := 37) dX10_seenByAnyOf_9 (by decide) (fun _ => ?_) (fun _ => ?_)
    · refine A_iload_n dX10_seenByAnyOf_37 rfl ?_
      exact A_iret rfl dX10_seenByAnyOf_38
    · refine A_iload_n dX10_seenByAnyOf_12 rfl ?_
      refine A_iload_n dX10_seenByAnyOf_13 rfl ?_
      refine A_callSp (a_X1_has (S := SC) (l := l) _ _ _ ) lc_X10_79 rfl (by decide) (Nat.le_of_ble_eq_true rfl) rfl dX10_seenByAnyOf_14 ?_
      refine A_if_eq (tgt := 31) dX10_seenByAnyOf_17 (by decide) (fun _ => ?_) (fun _ => ?_)
      · exact (a_X10_seenByAnyOf_b31 (l := l) fu x1 ih _ _ _ ).sub ⟨rfl, rfl, rfl, rfl, trivial⟩
      · refine A_iload_n dX10_seenByAnyOf_20 rfl ?_
        refine A_aload_n dX10_seenByAnyOf_21 rfl ?_
        refine A_getr lf_X10_18 rfl rfl dX10_seenByAnyOf_22 ?_
        refine A_iload_n dX10_seenByAnyOf_25 rfl ?_
        refine A_callSp (a_X1_at (S := SC) (l := l) _ _ _ _ rfl) lc_X10_75 rfl (by decide) (Nat.le_of_ble_eq_true rfl) rfl dX10_seenByAnyOf_26 ?_
        refine A_ior dX10_seenByAnyOf_29 ?_
        refine A_istore_n dX10_seenByAnyOf_30 (Nat.le_of_ble_eq_true rfl) rfl ?_
        exact (a_X10_seenByAnyOf_b31 (l := l) fu x1 ih _ _ _ ).sub ⟨rfl, rfl, rfl, rfl, trivial⟩
def F_X10_seenByAnyOf (fu : Nat)  (x1 : Int32)   (M : xM) : Option (Int32 × xM) :=
  F_X10_seenByAnyOf_b4 fu x1 fu (0 : Int32) (0 : Int32) M
set_option maxRecDepth 100000 in
set_option maxHeartbeats 4000000 in
theorem w_X10_seenByAnyOf {l : Launch} (fu : Nat) (x1 : Int32)     (M : xM)  : AW SC l RX10 cX10_seenByAnyOf 4 (some .int) 1 ki (F_X10_seenByAnyOf fu x1  M) 0 [some (xr 8), some (xi x1), none, none] [] M := by
  unfold F_X10_seenByAnyOf
  refine A_iconst (v := (0 : Int32)) dX10_seenByAnyOf_0 oI_0 ?_
  refine A_istore_n dX10_seenByAnyOf_1 (Nat.le_of_ble_eq_true rfl) rfl ?_
  refine A_iconst (v := (0 : Int32)) dX10_seenByAnyOf_2 oI_0 ?_
  refine A_istore_n dX10_seenByAnyOf_3 (Nat.le_of_ble_eq_true rfl) rfl ?_
  exact (a_X10_seenByAnyOf_b4 (l := l) fu x1  fu _ _ _).sub ⟨rfl, rfl, rfl, rfl, trivial⟩
theorem a_X10_seenByAnyOf {l : Launch} (fu : Nat)  (x1 : Int32) (M : xM)  : AM SC l yX10_seenByAnyOf cX10_seenByAnyOf 4 (some .int) 1 ki [xr 8, xi x1] M (F_X10_seenByAnyOf fu x1  M) :=
  AM.of (L0 := [some (xr 8), some (xi x1), none, none]) (w_X10_seenByAnyOf (l := l) fu x1  M ) (by decide +kernel) rfl (Nat.le_of_ble_eq_true rfl) ⟨rfl, rfl, trivial⟩
def F_X10_fewestSeeingAll_b88 (fu : Nat)  (x1 : Int32) (k54 : Int32 → Int32 → Int32 → xM → Option (Int32 × xM)) (x2 : Int32) (x3 : Int32) (x4 : Int32) (M : xM) : Option (Int32 × xM) :=
  k54 x2 x3 (x4 + (1 : Int32)) M
set_option maxRecDepth 100000 in
set_option maxHeartbeats 4000000 in
theorem a_X10_fewestSeeingAll_b88 {l : Launch} (fu : Nat) (x1 : Int32)  {k54 : Int32 → Int32 → Int32 → xM → Option (Int32 × xM)} (hk54 : ∀ (b0 : Int32) (b1 : Int32) (b2 : Int32) (M : xM), AW SC l RX10 cX10_fewestSeeingAll 5 (some .int) 6 ki (k54 b0 b1 b2 M) 54 [some (xr 8), none, some (xi b0), some (xi b1), some (xi b2)] [] M) (x2 : Int32) (x3 : Int32) (x4 : Int32) (M : xM)  : AW SC l RX10 cX10_fewestSeeingAll 5 (some .int) 6 ki (F_X10_fewestSeeingAll_b88 fu x1 k54 x2 x3 x4 M) 88 [some (xr 8), none, some (xi x2), some (xi x3), some (xi x4)] [] M := by
  unfold F_X10_fewestSeeingAll_b88
  refine A_iinc dX10_fewestSeeingAll_88 rfl oI_1 (Nat.le_of_ble_eq_true rfl) rfl ?_
  refine A_goto (tgt := 54) dX10_fewestSeeingAll_91 (by decide) ?_
  exact (hk54 _ _ _ _).sub ⟨rfl, rfl, rfl, rfl, trivial⟩
def F_X10_fewestSeeingAll_b54 (fu : Nat)  (x1 : Int32)  : Nat → Int32 → Int32 → Int32 → xM → Option (Int32 × xM)
  | 0, _, _, _, _ => none
  | n + 1, x2, x3, x4, M =>
    (if (P_X1_all (M 8 2) M) < x4 then
    some (x3, M)
    else
    (if (P_X1_better x4 x3 M) = 0 then
    F_X10_fewestSeeingAll_b88 fu x1 (F_X10_fewestSeeingAll_b54 fu x1 n) x2 x3 x4 M
    else
    (F_X10_seenByAnyOf fu x4 M).bind fun q1 =>
    (if q1.1 = x2 then
    F_X10_fewestSeeingAll_b88 fu x1 (F_X10_fewestSeeingAll_b54 fu x1 n) x2 x4 x4 q1.2
    else
    F_X10_fewestSeeingAll_b88 fu x1 (F_X10_fewestSeeingAll_b54 fu x1 n) x2 x3 x4 q1.2)))
set_option maxRecDepth 100000 in
set_option maxHeartbeats 4000000 in
theorem a_X10_fewestSeeingAll_b54 {l : Launch} (fu : Nat) (x1 : Int32)    : ∀ (n : Nat) (x2 : Int32) (x3 : Int32) (x4 : Int32) (M : xM), AW SC l RX10 cX10_fewestSeeingAll 5 (some .int) 6 ki (F_X10_fewestSeeingAll_b54 fu x1 n x2 x3 x4 M) 54 [some (xr 8), none, some (xi x2), some (xi x3), some (xi x4)] [] M := by
  intro n
  induction n with
  | zero =>
    intro x2 x3 x4 M
    exact AW.none
  | succ n ih =>
    intro x2 x3 x4 M
    rw [F_X10_fewestSeeingAll_b54]
    refine A_iload dX10_fewestSeeingAll_54 rfl ?_
    refine A_aload_n dX10_fewestSeeingAll_56 rfl ?_
    refine A_geti lf_X10_29 rfl rfl dX10_fewestSeeingAll_57 ?_
    refine A_callSp (a_X1_all (S := SC) (l := l) _ _ ) lc_X10_110 rfl (by decide) (Nat.le_of_ble_eq_true rfl) rfl dX10_fewestSeeingAll_60 ?_
    refine A_icmp_gt (tgt := 94) dX10_fewestSeeingAll_63 (by decide) (fun _ => ?_) (fun _ => ?_)
    · refine A_iload_n dX10_fewestSeeingAll_94 rfl ?_
      exact A_iret rfl dX10_fewestSeeingAll_95
    · refine A_iload dX10_fewestSeeingAll_66 rfl ?_
      refine A_iload_n dX10_fewestSeeingAll_68 rfl ?_
      refine A_callSp (a_X1_better (S := SC) (l := l) _ _ _ ) lc_X10_113 rfl (by decide) (Nat.le_of_ble_eq_true rfl) rfl dX10_fewestSeeingAll_69 ?_
      refine A_if_eq (tgt := 88) dX10_fewestSeeingAll_72 (by decide) (fun _ => ?_) (fun _ => ?_)
      · exact (a_X10_fewestSeeingAll_b88 (l := l) fu x1 ih _ _ _ _ ).sub ⟨rfl, rfl, rfl, rfl, trivial⟩
      · refine A_aload_n dX10_fewestSeeingAll_75 rfl ?_
        refine A_iload dX10_fewestSeeingAll_76 rfl ?_
        refine A_callVi (a_X10_seenByAnyOf (l := l) fu _ _ ) lc_X10_116 rfl rfl (by decide) (Nat.le_of_ble_eq_true rfl) rfl dX10_fewestSeeingAll_78 (fun q1 Mq1 hq1 => ?_)
        refine A_iload_n dX10_fewestSeeingAll_81 rfl ?_
        refine A_icmp_ne (tgt := 88) dX10_fewestSeeingAll_82 (by decide) (fun _ => ?_) (fun _ => ?_)
        · refine A_iload dX10_fewestSeeingAll_85 rfl ?_
          refine A_istore_n dX10_fewestSeeingAll_87 (Nat.le_of_ble_eq_true rfl) rfl ?_
          exact (a_X10_fewestSeeingAll_b88 (l := l) fu x1 ih _ _ _ _ ).sub ⟨rfl, rfl, rfl, rfl, trivial⟩
        · exact (a_X10_fewestSeeingAll_b88 (l := l) fu x1 ih _ _ _ _ ).sub ⟨rfl, rfl, rfl, rfl, trivial⟩
def F_X10_fewestSeeingAll_b4 (fu : Nat)  (x1 : Int32)  : Nat → Int32 → Int32 → xM → Option (Int32 × xM)
  | 0, _, _, _ => none
  | n + 1, x2, x3, M =>
    (if (M 8 2) ≤ x3 then
    F_X10_fewestSeeingAll_b54 fu x1 fu x2 (P_X1_all (M 8 2) M) (0 : Int32) M
    else
    (F_X10_seenBy fu x3 x1 M).bind fun q1 =>
    (F_X1_put 45 8 x3 q1.1 q1.2).bind fun q2 =>
    F_X10_fewestSeeingAll_b4 fu x1 n (x2 ||| (P_X1_at 45 8 x3 q2)) (x3 + (1 : Int32)) q2)
set_option maxRecDepth 100000 in
set_option maxHeartbeats 4000000 in
theorem a_X10_fewestSeeingAll_b4 {l : Launch} (fu : Nat) (x1 : Int32)    : ∀ (n : Nat) (x2 : Int32) (x3 : Int32) (M : xM), AW SC l RX10 cX10_fewestSeeingAll 5 (some .int) 6 ki (F_X10_fewestSeeingAll_b4 fu x1 n x2 x3 M) 4 [some (xr 8), some (xi x1), some (xi x2), some (xi x3), none] [] M := by
  intro n
  induction n with
  | zero =>
    intro x2 x3 M
    exact AW.none
  | succ n ih =>
    intro x2 x3 M
    rw [F_X10_fewestSeeingAll_b4]
    refine A_iload_n dX10_fewestSeeingAll_4 rfl ?_
    refine A_aload_n dX10_fewestSeeingAll_5 rfl ?_
    refine A_geti lf_X10_29 rfl rfl dX10_fewestSeeingAll_6 ?_
    refine A_icmp_ge (tgt := 43) dX10_fewestSeeingAll_9 (by decide) (fun _ => ?_) (fun _ => ?_)
    · refine A_aload_n dX10_fewestSeeingAll_43 rfl ?_
      refine A_geti lf_X10_29 rfl rfl dX10_fewestSeeingAll_44 ?_
      refine A_callSp (a_X1_all (S := SC) (l := l) _ _ ) lc_X10_110 rfl (by decide) (Nat.le_of_ble_eq_true rfl) rfl dX10_fewestSeeingAll_47 ?_
      refine A_istore_n dX10_fewestSeeingAll_50 (Nat.le_of_ble_eq_true rfl) rfl ?_
      refine A_iconst (v := (0 : Int32)) dX10_fewestSeeingAll_51 oI_0 ?_
      refine A_istore dX10_fewestSeeingAll_52 (Nat.le_of_ble_eq_true rfl) rfl ?_
      exact (a_X10_fewestSeeingAll_b54 (l := l) fu x1  fu _ _ _ _).sub ⟨rfl, rfl, rfl, rfl, trivial⟩
    · refine A_aload_n dX10_fewestSeeingAll_12 rfl ?_
      refine A_getr lf_X10_18 rfl rfl dX10_fewestSeeingAll_13 ?_
      refine A_iload_n dX10_fewestSeeingAll_16 rfl ?_
      refine A_aload_n dX10_fewestSeeingAll_17 rfl ?_
      refine A_iload_n dX10_fewestSeeingAll_18 rfl ?_
      refine A_iload_n dX10_fewestSeeingAll_19 rfl ?_
      refine A_callVi (a_X10_seenBy (l := l) fu _ _ _ ) lc_X10_107 rfl rfl (by decide) (Nat.le_of_ble_eq_true rfl) rfl dX10_fewestSeeingAll_20 (fun q1 Mq1 hq1 => ?_)
      refine A_callSv (a_X1_put (S := SC) (l := l) _ _ _ _ _ rfl) lc_X10_45 rfl (by decide) (Nat.le_of_ble_eq_true rfl) rfl dX10_fewestSeeingAll_23 (fun q2 hq2 => ?_)
      refine A_iload_n dX10_fewestSeeingAll_26 rfl ?_
      refine A_aload_n dX10_fewestSeeingAll_27 rfl ?_
      refine A_getr lf_X10_18 rfl rfl dX10_fewestSeeingAll_28 ?_
      refine A_iload_n dX10_fewestSeeingAll_31 rfl ?_
      refine A_callSp (a_X1_at (S := SC) (l := l) _ _ _ _ rfl) lc_X10_75 rfl (by decide) (Nat.le_of_ble_eq_true rfl) rfl dX10_fewestSeeingAll_32 ?_
      refine A_ior dX10_fewestSeeingAll_35 ?_
      refine A_istore_n dX10_fewestSeeingAll_36 (Nat.le_of_ble_eq_true rfl) rfl ?_
      refine A_iinc dX10_fewestSeeingAll_37 rfl oI_1 (Nat.le_of_ble_eq_true rfl) rfl ?_
      refine A_goto (tgt := 4) dX10_fewestSeeingAll_40 (by decide) ?_
      exact (ih _ _ _).sub ⟨rfl, rfl, rfl, rfl, trivial⟩
def F_X10_fewestSeeingAll (fu : Nat)  (x1 : Int32)   (M : xM) : Option (Int32 × xM) :=
  F_X10_fewestSeeingAll_b4 fu x1 fu (0 : Int32) (0 : Int32) M
set_option maxRecDepth 100000 in
set_option maxHeartbeats 4000000 in
theorem w_X10_fewestSeeingAll {l : Launch} (fu : Nat) (x1 : Int32)     (M : xM)  : AW SC l RX10 cX10_fewestSeeingAll 5 (some .int) 6 ki (F_X10_fewestSeeingAll fu x1  M) 0 [some (xr 8), some (xi x1), none, none, none] [] M := by
  unfold F_X10_fewestSeeingAll
  refine A_iconst (v := (0 : Int32)) dX10_fewestSeeingAll_0 oI_0 ?_
  refine A_istore_n dX10_fewestSeeingAll_1 (Nat.le_of_ble_eq_true rfl) rfl ?_
  refine A_iconst (v := (0 : Int32)) dX10_fewestSeeingAll_2 oI_0 ?_
  refine A_istore_n dX10_fewestSeeingAll_3 (Nat.le_of_ble_eq_true rfl) rfl ?_
  exact (a_X10_fewestSeeingAll_b4 (l := l) fu x1  fu _ _ _).sub ⟨rfl, rfl, rfl, rfl, trivial⟩
theorem a_X10_fewestSeeingAll {l : Launch} (fu : Nat)  (x1 : Int32) (M : xM)  : AM SC l yX10_fewestSeeingAll cX10_fewestSeeingAll 5 (some .int) 6 ki [xr 8, xi x1] M (F_X10_fewestSeeingAll fu x1  M) :=
  AM.of (L0 := [some (xr 8), some (xi x1), none, none, none]) (w_X10_fewestSeeingAll (l := l) fu x1  M ) (by decide +kernel) rfl (Nat.le_of_ble_eq_true rfl) ⟨rfl, rfl, trivial⟩
