theorem oS_9999 : (Int16.ofInt (9999)).toInt32 = (9999 : Int32) := by decide +kernel
theorem lk_X8_118 : Jvm.Cond.constant RX8 118 (-100000) ∈ lw_g := lw_gm 998 (by decide +kernel) rfl
theorem lk_X8_85 : Jvm.Cond.constant RX8 85 (1000000) ∈ lw_g := lw_gm 987 (by decide +kernel) rfl
theorem lf_X8_146 : xfl RX8 146 4 5 (tyX5 5) true := ⟨_, _, _, _, xc_X5, by decide, rfl, rfl, rfl, lw_gm 285 (by decide +kernel) rfl⟩
theorem lf_X8_15 : xfl RX8 15 7 3 (tyX8 3) true := ⟨_, _, _, _, xc_X8, by decide, rfl, rfl, rfl, lw_gm 367 (by decide +kernel) rfl⟩
theorem lf_X8_19 : xfl RX8 19 7 4 (tyX8 4) true := ⟨_, _, _, _, xc_X8, by decide, rfl, rfl, rfl, lw_gm 368 (by decide +kernel) rfl⟩
theorem lf_X8_22 : xfl RX8 22 7 5 (tyX8 5) true := ⟨_, _, _, _, xc_X8, by decide, rfl, rfl, rfl, lw_gm 369 (by decide +kernel) rfl⟩
theorem lf_X8_25 : xfl RX8 25 7 6 (tyX8 6) true := ⟨_, _, _, _, xc_X8, by decide, rfl, rfl, rfl, lw_gm 370 (by decide +kernel) rfl⟩
theorem lf_X8_28 : xfl RX8 28 7 0 (tyX8 0) true := ⟨_, _, _, _, xc_X8, by decide, rfl, rfl, rfl, lw_gm 364 (by decide +kernel) rfl⟩
theorem lf_X8_32 : xfl RX8 32 7 1 (tyX8 1) true := ⟨_, _, _, _, xc_X8, by decide, rfl, rfl, rfl, lw_gm 365 (by decide +kernel) rfl⟩
theorem lf_X8_36 : xfl RX8 36 7 2 (tyX8 2) true := ⟨_, _, _, _, xc_X8, by decide, rfl, rfl, rfl, lw_gm 366 (by decide +kernel) rfl⟩
theorem lf_X8_40 : xfl RX8 40 4 4 (tyX5 4) true := ⟨_, _, _, _, xc_X5, by decide, rfl, rfl, rfl, lw_gm 282 (by decide +kernel) rfl⟩
theorem lf_X8_77 : xfl RX8 77 4 1 (tyX5 1) false := ⟨_, _, _, _, xc_X5, by decide, rfl, rfl, rfl, lw_gm 274 (by decide +kernel) rfl⟩
theorem lf_X8_97 : xfl RX8 97 0 0 (tyX0 0) true := ⟨_, _, _, _, xc_X0, by decide, rfl, rfl, rfl, lw_gm 149 (by decide +kernel) rfl⟩
theorem lc_X8_100 : xlS RX8 100 yX1_has cX1_has 2 (some .boolean) 2 := ⟨⟨lw_gm 993 (by decide +kernel) rfl, lw_gm 106 (by decide +kernel) rfl, lw_gm 858 (by decide +kernel) rfl, ⟨by decide, by decide, by decide +kernel⟩, by decide⟩, lw_gm 857 (by decide +kernel) rfl⟩
theorem lc_X8_103 : xlV RX8 103 yX0_leversOf cX0_leversOf 2 (some .int) 1 0 := ⟨⟨lw_gm 994 (by decide +kernel) rfl, lw_gm 105 (by decide +kernel) rfl, lw_gm 569 (by decide +kernel) rfl, ⟨by decide, by decide, by decide +kernel⟩, by decide⟩, lw_gm 567 (by decide +kernel) rfl, lw_gm 568 (by decide +kernel) rfl, _, _, rfl⟩
theorem lc_X8_106 : xlS RX8 106 yX8_pair cX8_pair 3 (some .int) 3 := ⟨⟨lw_gm 995 (by decide +kernel) rfl, lw_gm 113 (by decide +kernel) rfl, lw_gm 997 (by decide +kernel) rfl, ⟨by decide, by decide, by decide +kernel⟩, by decide⟩, lw_gm 996 (by decide +kernel) rfl⟩
theorem lc_X8_109 : xlV RX8 109 yX0_officeOf cX0_officeOf 3 (some .int) 1 0 := ⟨⟨lw_gm 981 (by decide +kernel) rfl, lw_gm 105 (by decide +kernel) rfl, lw_gm 940 (by decide +kernel) rfl, ⟨by decide, by decide, by decide +kernel⟩, by decide⟩, lw_gm 938 (by decide +kernel) rfl, lw_gm 939 (by decide +kernel) rfl, _, _, rfl⟩
theorem lc_X8_112 : xlS RX8 112 yX1_bit cX1_bit 1 (some .int) 1 := ⟨⟨lw_gm 982 (by decide +kernel) rfl, lw_gm 106 (by decide +kernel) rfl, lw_gm 515 (by decide +kernel) rfl, ⟨by decide, by decide, by decide +kernel⟩, by decide⟩, lw_gm 514 (by decide +kernel) rfl⟩
theorem lc_X8_115 : xlV RX8 115 yX8_weigh cX8_weigh 6 (some .boolean) 2 7 := ⟨⟨lw_gm 983 (by decide +kernel) rfl, lw_gm 113 (by decide +kernel) rfl, lw_gm 986 (by decide +kernel) rfl, ⟨by decide, by decide, by decide +kernel⟩, by decide⟩, lw_gm 985 (by decide +kernel) rfl, lw_gm 20 (by decide +kernel) rfl, _, _, rfl⟩
theorem lc_X8_119 : xlV RX8 119 yX8_lead cX8_lead 7 (some .int) 3 7 := ⟨⟨lw_gm 999 (by decide +kernel) rfl, lw_gm 113 (by decide +kernel) rfl, lw_gm 1002 (by decide +kernel) rfl, ⟨by decide, by decide, by decide +kernel⟩, by decide⟩, lw_gm 1001 (by decide +kernel) rfl, lw_gm 22 (by decide +kernel) rfl, _, _, rfl⟩
theorem lc_X8_122 : xlV RX8 122 yX8_leadsAll cX8_leadsAll 6 (some .boolean) 3 7 := ⟨⟨lw_gm 1012 (by decide +kernel) rfl, lw_gm 113 (by decide +kernel) rfl, lw_gm 1015 (by decide +kernel) rfl, ⟨by decide, by decide, by decide +kernel⟩, by decide⟩, lw_gm 1014 (by decide +kernel) rfl, lw_gm 23 (by decide +kernel) rfl, _, _, rfl⟩
theorem lc_X8_126 : xlV RX8 126 yX8_weighOpened cX8_weighOpened 5 none 2 7 := ⟨⟨lw_gm 1028 (by decide +kernel) rfl, lw_gm 113 (by decide +kernel) rfl, lw_gm 1031 (by decide +kernel) rfl, ⟨by decide, by decide, by decide +kernel⟩, by decide⟩, lw_gm 1030 (by decide +kernel) rfl, lw_gm 24 (by decide +kernel) rfl, _, _, rfl⟩
theorem lc_X8_130 : xlS RX8 130 yX1_all cX1_all 1 (some .int) 1 := ⟨⟨lw_gm 1033 (by decide +kernel) rfl, lw_gm 106 (by decide +kernel) rfl, lw_gm 512 (by decide +kernel) rfl, ⟨by decide, by decide, by decide +kernel⟩, by decide⟩, lw_gm 511 (by decide +kernel) rfl⟩
theorem lc_X8_133 : xlV RX8 133 yX8_canOpen cX8_canOpen 3 (some .boolean) 1 7 := ⟨⟨lw_gm 1034 (by decide +kernel) rfl, lw_gm 113 (by decide +kernel) rfl, lw_gm 1037 (by decide +kernel) rfl, ⟨by decide, by decide, by decide +kernel⟩, by decide⟩, lw_gm 1036 (by decide +kernel) rfl, lw_gm 25 (by decide +kernel) rfl, _, _, rfl⟩
theorem lc_X8_137 : xlV RX8 137 yX8_isCheaper cX8_isCheaper 4 (some .boolean) 2 7 := ⟨⟨lw_gm 1038 (by decide +kernel) rfl, lw_gm 113 (by decide +kernel) rfl, lw_gm 1041 (by decide +kernel) rfl, ⟨by decide, by decide, by decide +kernel⟩, by decide⟩, lw_gm 1040 (by decide +kernel) rfl, lw_gm 26 (by decide +kernel) rfl, _, _, rfl⟩
theorem lc_X8_140 : xlV RX8 140 yX8_costOf cX8_costOf 4 (some .int) 1 7 := ⟨⟨lw_gm 1042 (by decide +kernel) rfl, lw_gm 113 (by decide +kernel) rfl, lw_gm 1045 (by decide +kernel) rfl, ⟨by decide, by decide, by decide +kernel⟩, by decide⟩, lw_gm 1043 (by decide +kernel) rfl, lw_gm 1044 (by decide +kernel) rfl, _, _, rfl⟩
theorem lc_X8_143 : xlS RX8 143 yX1_better cX1_better 5 (some .boolean) 2 := ⟨⟨lw_gm 1046 (by decide +kernel) rfl, lw_gm 106 (by decide +kernel) rfl, lw_gm 593 (by decide +kernel) rfl, ⟨by decide, by decide, by decide +kernel⟩, by decide⟩, lw_gm 592 (by decide +kernel) rfl⟩
theorem lc_X8_149 : xlS RX8 149 yX1_within cX1_within 3 (some .boolean) 3 := ⟨⟨lw_gm 1272 (by decide +kernel) rfl, lw_gm 106 (by decide +kernel) rfl, lw_gm 518 (by decide +kernel) rfl, ⟨by decide, by decide, by decide +kernel⟩, by decide⟩, lw_gm 517 (by decide +kernel) rfl⟩
theorem lc_X8_152 : xlV RX8 152 yX0_isLever cX0_isLever 2 (some .boolean) 1 0 := ⟨⟨lw_gm 1273 (by decide +kernel) rfl, lw_gm 105 (by decide +kernel) rfl, lw_gm 807 (by decide +kernel) rfl, ⟨by decide, by decide, by decide +kernel⟩, by decide⟩, lw_gm 805 (by decide +kernel) rfl, lw_gm 806 (by decide +kernel) rfl, _, _, rfl⟩
theorem lc_X8_43 : xlS RX8 43 yX1_at cX1_at 2 (some .int) 2 := ⟨⟨lw_gm 950 (by decide +kernel) rfl, lw_gm 106 (by decide +kernel) rfl, lw_gm 560 (by decide +kernel) rfl, ⟨by decide, by decide, by decide +kernel⟩, by decide⟩, lw_gm 559 (by decide +kernel) rfl⟩
theorem lc_X8_49 : xlV RX8 49 yX2_lay cX2_lay 5 (some .boolean) 2 1 := ⟨⟨lw_gm 951 (by decide +kernel) rfl, lw_gm 112 (by decide +kernel) rfl, lw_gm 849 (by decide +kernel) rfl, ⟨by decide, by decide, by decide +kernel⟩, by decide⟩, lw_gm 847 (by decide +kernel) rfl, lw_gm 848 (by decide +kernel) rfl, _, _, rfl⟩
theorem lc_X8_55 : xlV RX8 55 yX2_setsOf cX2_setsOf 2 (some .int) 1 1 := ⟨⟨lw_gm 945 (by decide +kernel) rfl, lw_gm 112 (by decide +kernel) rfl, lw_gm 843 (by decide +kernel) rfl, ⟨by decide, by decide, by decide +kernel⟩, by decide⟩, lw_gm 841 (by decide +kernel) rfl, lw_gm 842 (by decide +kernel) rfl, _, _, rfl⟩
theorem lc_X8_59 : xlV RX8 59 yX8_counts cX8_counts 4 (some .boolean) 2 7 := ⟨⟨lw_gm 946 (by decide +kernel) rfl, lw_gm 113 (by decide +kernel) rfl, lw_gm 949 (by decide +kernel) rfl, ⟨by decide, by decide, by decide +kernel⟩, by decide⟩, lw_gm 948 (by decide +kernel) rfl, lw_gm 19 (by decide +kernel) rfl, _, _, rfl⟩
theorem lc_X8_62 : xlV RX8 62 yX2_low cX2_low 2 (some .int) 1 1 := ⟨⟨lw_gm 952 (by decide +kernel) rfl, lw_gm 112 (by decide +kernel) rfl, lw_gm 911 (by decide +kernel) rfl, ⟨by decide, by decide, by decide +kernel⟩, by decide⟩, lw_gm 909 (by decide +kernel) rfl, lw_gm 910 (by decide +kernel) rfl, _, _, rfl⟩
theorem lc_X8_65 : xlS RX8 65 Lib.Math.min.name Lib.Math.min.code 2 (some .int) 2 := ⟨⟨lw_gm 953 (by decide +kernel) rfl, lw_gm 107 (by decide +kernel) rfl, lw_gm 142 (by decide +kernel) rfl, ⟨by decide, by decide, by decide +kernel⟩, by decide⟩, lw_gm 141 (by decide +kernel) rfl⟩
theorem lc_X8_71 : xlV RX8 71 yX2_high cX2_high 2 (some .int) 1 1 := ⟨⟨lw_gm 954 (by decide +kernel) rfl, lw_gm 112 (by decide +kernel) rfl, lw_gm 957 (by decide +kernel) rfl, ⟨by decide, by decide, by decide +kernel⟩, by decide⟩, lw_gm 955 (by decide +kernel) rfl, lw_gm 956 (by decide +kernel) rfl, _, _, rfl⟩
theorem lc_X8_74 : xlS RX8 74 Lib.Math.max.name Lib.Math.max.code 2 (some .int) 2 := ⟨⟨lw_gm 958 (by decide +kernel) rfl, lw_gm 107 (by decide +kernel) rfl, lw_gm 145 (by decide +kernel) rfl, ⟨by decide, by decide, by decide +kernel⟩, by decide⟩, lw_gm 144 (by decide +kernel) rfl⟩
theorem lc_X8_81 : xlV RX8 81 yX8_pullsAt cX8_pullsAt 6 (some .int) 3 7 := ⟨⟨lw_gm 972 (by decide +kernel) rfl, lw_gm 113 (by decide +kernel) rfl, lw_gm 944 (by decide +kernel) rfl, ⟨by decide, by decide, by decide +kernel⟩, by decide⟩, lw_gm 942 (by decide +kernel) rfl, lw_gm 943 (by decide +kernel) rfl, _, _, rfl⟩
theorem lc_X8_86 : xlS RX8 86 yX1_put cX1_put 3 none 3 := ⟨⟨lw_gm 988 (by decide +kernel) rfl, lw_gm 106 (by decide +kernel) rfl, lw_gm 527 (by decide +kernel) rfl, ⟨by decide, by decide, by decide +kernel⟩, by decide⟩, lw_gm 526 (by decide +kernel) rfl⟩
theorem lc_X8_90 : xlV RX8 90 yX8_lower cX8_lower 8 none 4 7 := ⟨⟨lw_gm 989 (by decide +kernel) rfl, lw_gm 113 (by decide +kernel) rfl, lw_gm 992 (by decide +kernel) rfl, ⟨by decide, by decide, by decide +kernel⟩, by decide⟩, lw_gm 991 (by decide +kernel) rfl, lw_gm 21 (by decide +kernel) rfl, _, _, rfl⟩
theorem lc_X8_94 : xlV RX8 94 yX2_fewest cX2_fewest 4 (some .int) 1 1 := ⟨⟨lw_gm 1032 (by decide +kernel) rfl, lw_gm 112 (by decide +kernel) rfl, lw_gm 923 (by decide +kernel) rfl, ⟨by decide, by decide, by decide +kernel⟩, by decide⟩, lw_gm 921 (by decide +kernel) rfl, lw_gm 922 (by decide +kernel) rfl, _, _, rfl⟩
def F_X8_counts_b22 (fu : Nat)  (x1 : Int32) (x2 : Int32)   (M : xM) : Option (Int32 × xM) :=
  (F_X2_lay fu x1 x2 M).bind fun q1 =>
  (if q1.1 = 0 then
  some ((0 : Int32), q1.2)
  else
  some ((1 : Int32), q1.2))
set_option maxRecDepth 100000 in
set_option maxHeartbeats 4000000 in
theorem a_X8_counts_b22 {l : Launch} (fu : Nat) (x1 : Int32) (x2 : Int32)     (M : xM)  : AW SC l RX8 cX8_counts 4 (some .boolean) 5 ki (F_X8_counts_b22 fu x1 x2  M) 22 [some (xr 7), some (xi x1), some (xi x2), none] [] M := by
  unfold F_X8_counts_b22
  refine A_aload_n dX8_counts_22 rfl ?_
  refine A_getr lf_X8_36 rfl rfl dX8_counts_23 ?_
  refine A_iload_n dX8_counts_26 rfl ?_
  refine A_iload_n dX8_counts_27 rfl ?_
  refine A_callVi (a_X2_lay (l := l) fu _ _ _ ) lc_X8_49 rfl rfl (by decide) (Nat.le_of_ble_eq_true rfl) rfl dX8_counts_28 (fun q1 Mq1 hq1 => ?_)
  refine A_if_eq (tgt := 38) dX8_counts_31 (by decide) (fun _ => ?_) (fun _ => ?_)
  · refine A_iconst (v := (0 : Int32)) dX8_counts_38 oI_0 ?_
    exact A_zret' rfl (Or.inl rfl) dX8_counts_39
  · refine A_iconst (v := (1 : Int32)) dX8_counts_34 oI_1 ?_
    refine A_goto (tgt := 39) dX8_counts_35 (by decide) ?_
    exact A_zret' rfl (Or.inr rfl) dX8_counts_39
def F_X8_counts (fu : Nat)  (x1 : Int32) (x2 : Int32)   (M : xM) : Option (Int32 × xM) :=
  (if (P_X1_at 24 6 x1 M) = (-1 : Int32) then
  F_X8_counts_b22 fu x1 x2  M
  else
  (if (P_X1_at 24 6 x1 M) = x2 then
  F_X8_counts_b22 fu x1 x2  M
  else
  some ((0 : Int32), M)))
set_option maxRecDepth 100000 in
set_option maxHeartbeats 4000000 in
theorem w_X8_counts {l : Launch} (fu : Nat) (x1 : Int32) (x2 : Int32)     (M : xM)  : AW SC l RX8 cX8_counts 4 (some .boolean) 5 ki (F_X8_counts fu x1 x2  M) 0 [some (xr 7), some (xi x1), some (xi x2), none] [] M := by
  unfold F_X8_counts
  refine A_aload_n dX8_counts_0 rfl ?_
  refine A_getr lf_X8_32 rfl rfl dX8_counts_1 ?_
  refine A_getr lf_X8_40 rfl rfl dX8_counts_4 ?_
  refine A_iload_n dX8_counts_7 rfl ?_
  refine A_callSp (a_X1_at (S := SC) (l := l) _ _ _ _ rfl) lc_X8_43 rfl (by decide) (Nat.le_of_ble_eq_true rfl) rfl dX8_counts_8 ?_
  refine A_istore_n dX8_counts_11 (Nat.le_of_ble_eq_true rfl) rfl ?_
  refine A_iload_n dX8_counts_12 rfl ?_
  refine A_iconst (v := (-1 : Int32)) dX8_counts_13 oI_m1 ?_
  refine A_icmp_eq (tgt := 22) dX8_counts_14 (by decide) (fun _ => ?_) (fun _ => ?_)
  · exact (a_X8_counts_b22 (l := l) fu x1 x2   _ ).sub ⟨rfl, rfl, rfl, trivial⟩
  · refine A_iload_n dX8_counts_17 rfl ?_
    refine A_iload_n dX8_counts_18 rfl ?_
    refine A_icmp_ne (tgt := 38) dX8_counts_19 (by decide) (fun _ => ?_) (fun _ => ?_)
    · exact (a_X8_counts_b22 (l := l) fu x1 x2   _ ).sub ⟨rfl, rfl, rfl, trivial⟩
    · refine A_iconst (v := (0 : Int32)) dX8_counts_38 oI_0 ?_
      exact A_zret' rfl (Or.inl rfl) dX8_counts_39
theorem a_X8_counts {l : Launch} (fu : Nat)  (x1 : Int32) (x2 : Int32) (M : xM)  : AM SC l yX8_counts cX8_counts 4 (some .boolean) 5 ki [xr 7, xi x1, xi x2] M (F_X8_counts fu x1 x2  M) :=
  AM.of (L0 := [some (xr 7), some (xi x1), some (xi x2), none]) (w_X8_counts (l := l) fu x1 x2  M ) (by decide +kernel) rfl (Nat.le_of_ble_eq_true rfl) ⟨rfl, rfl, rfl, trivial⟩
def F_X8_pullsAt_b86 (fu : Nat)  (x1 : Int32) (x2 : Int32) (x3 : Int32) (k6 : Int32 → Int32 → xM → Option (Int32 × xM)) (x4 : Int32) (x5 : Int32) (M : xM) : Option (Int32 × xM) :=
  k6 x4 (x5 + (1 : Int32)) M
set_option maxRecDepth 100000 in
set_option maxHeartbeats 4000000 in
theorem a_X8_pullsAt_b86 {l : Launch} (fu : Nat) (x1 : Int32) (x2 : Int32) (x3 : Int32)  {k6 : Int32 → Int32 → xM → Option (Int32 × xM)} (hk6 : ∀ (b0 : Int32) (b1 : Int32) (M : xM), AW SC l RX8 cX8_pullsAt 6 (some .int) 6 ki (k6 b0 b1 M) 6 [some (xr 7), some (xi x1), some (xi x2), some (xi x3), some (xi b0), some (xi b1)] [] M) (x4 : Int32) (x5 : Int32) (M : xM)  : AW SC l RX8 cX8_pullsAt 6 (some .int) 6 ki (F_X8_pullsAt_b86 fu x1 x2 x3 k6 x4 x5 M) 86 [some (xr 7), some (xi x1), some (xi x2), some (xi x3), some (xi x4), some (xi x5)] [] M := by
  unfold F_X8_pullsAt_b86
  refine A_iinc dX8_pullsAt_86 rfl oI_1 (Nat.le_of_ble_eq_true rfl) rfl ?_
  refine A_goto (tgt := 6) dX8_pullsAt_89 (by decide) ?_
  exact (hk6 _ _ _).sub ⟨rfl, rfl, rfl, rfl, rfl, rfl, trivial⟩
def F_X8_pullsAt_b66 (fu : Nat)  (x1 : Int32) (x2 : Int32) (x3 : Int32) (k6 : Int32 → Int32 → xM → Option (Int32 × xM)) (x5 : Int32) (s0 : Int32) (M : xM) : Option (Int32 × xM) :=
  F_X8_pullsAt_b86 fu x1 x2 x3 k6 s0 x5 M
set_option maxRecDepth 100000 in
set_option maxHeartbeats 4000000 in
theorem a_X8_pullsAt_b66 {l : Launch} (fu : Nat) (x1 : Int32) (x2 : Int32) (x3 : Int32)  {k6 : Int32 → Int32 → xM → Option (Int32 × xM)} (hk6 : ∀ (b0 : Int32) (b1 : Int32) (M : xM), AW SC l RX8 cX8_pullsAt 6 (some .int) 6 ki (k6 b0 b1 M) 6 [some (xr 7), some (xi x1), some (xi x2), some (xi x3), some (xi b0), some (xi b1)] [] M) (x5 : Int32) (s0 : Int32) (M : xM)  : AW SC l RX8 cX8_pullsAt 6 (some .int) 6 ki (F_X8_pullsAt_b66 fu x1 x2 x3 k6 x5 s0 M) 66 [some (xr 7), some (xi x1), some (xi x2), some (xi x3), none, some (xi x5)] [xi s0] M := by
  unfold F_X8_pullsAt_b66
  refine A_istore dX8_pullsAt_66 (Nat.le_of_ble_eq_true rfl) rfl ?_
  refine A_goto (tgt := 86) dX8_pullsAt_68 (by decide) ?_
  exact (a_X8_pullsAt_b86 (l := l) fu x1 x2 x3 hk6 _ _ _ ).sub ⟨rfl, rfl, rfl, rfl, rfl, rfl, trivial⟩
def F_X8_pullsAt_b6 (fu : Nat)  (x1 : Int32) (x2 : Int32) (x3 : Int32)  : Nat → Int32 → Int32 → xM → Option (Int32 × xM)
  | 0, _, _, _ => none
  | n + 1, x4, x5, M =>
    (if (P_X2_setsOf x1 M) ≤ x5 then
    some (x4, M)
    else
    (F_X8_counts fu x1 x5 M).bind fun q1 =>
    (if q1.1 = 0 then
    F_X8_pullsAt_b86 fu x1 x2 x3 (F_X8_pullsAt_b6 fu x1 x2 x3 n) x4 x5 q1.2
    else
    (if x3 = 0 then
    (if x4 = (-1 : Int32) then
    F_X8_pullsAt_b66 fu x1 x2 x3 (F_X8_pullsAt_b6 fu x1 x2 x3 n) x5 (P_X2_low x2 q1.2) q1.2
    else
    F_X8_pullsAt_b66 fu x1 x2 x3 (F_X8_pullsAt_b6 fu x1 x2 x3 n) x5 (jmin x4 (P_X2_low x2 q1.2)) q1.2)
    else
    F_X8_pullsAt_b86 fu x1 x2 x3 (F_X8_pullsAt_b6 fu x1 x2 x3 n) (jmax x4 (P_X2_high x2 q1.2)) x5 q1.2)))
set_option maxRecDepth 100000 in
set_option maxHeartbeats 4000000 in
theorem a_X8_pullsAt_b6 {l : Launch} (fu : Nat) (x1 : Int32) (x2 : Int32) (x3 : Int32)    : ∀ (n : Nat) (x4 : Int32) (x5 : Int32) (M : xM), AW SC l RX8 cX8_pullsAt 6 (some .int) 6 ki (F_X8_pullsAt_b6 fu x1 x2 x3 n x4 x5 M) 6 [some (xr 7), some (xi x1), some (xi x2), some (xi x3), some (xi x4), some (xi x5)] [] M := by
  intro n
  induction n with
  | zero =>
    intro x4 x5 M
    exact AW.none
  | succ n ih =>
    intro x4 x5 M
    rw [F_X8_pullsAt_b6]
    refine A_iload dX8_pullsAt_6 rfl ?_
    refine A_aload_n dX8_pullsAt_8 rfl ?_
    refine A_getr lf_X8_36 rfl rfl dX8_pullsAt_9 ?_
    refine A_iload_n dX8_pullsAt_12 rfl ?_
    refine A_callVp (a_X2_setsOf (l := l) _ _ ) lc_X8_55 rfl rfl (by decide) (Nat.le_of_ble_eq_true rfl) rfl dX8_pullsAt_13 ?_
    refine A_icmp_ge (tgt := 92) dX8_pullsAt_16 (by decide) (fun _ => ?_) (fun _ => ?_)
    · refine A_iload dX8_pullsAt_92 rfl ?_
      exact A_iret rfl dX8_pullsAt_94
    · refine A_aload_n dX8_pullsAt_19 rfl ?_
      refine A_iload_n dX8_pullsAt_20 rfl ?_
      refine A_iload dX8_pullsAt_21 rfl ?_
      refine A_callVi (a_X8_counts (l := l) fu _ _ _ ) lc_X8_59 rfl rfl (by decide) (Nat.le_of_ble_eq_true rfl) rfl dX8_pullsAt_23 (fun q1 Mq1 hq1 => ?_)
      refine A_if_ne (tgt := 32) dX8_pullsAt_26 (by decide) (fun _ => ?_) (fun _ => ?_)
      · refine A_goto (tgt := 86) dX8_pullsAt_29 (by decide) ?_
        exact (a_X8_pullsAt_b86 (l := l) fu x1 x2 x3 ih _ _ _ ).sub ⟨rfl, rfl, rfl, rfl, rfl, rfl, trivial⟩
      · refine A_iload_n dX8_pullsAt_32 rfl ?_
        refine A_if_ne (tgt := 71) dX8_pullsAt_33 (by decide) (fun _ => ?_) (fun _ => ?_)
        · refine A_iload dX8_pullsAt_36 rfl ?_
          refine A_iconst (v := (-1 : Int32)) dX8_pullsAt_38 oI_m1 ?_
          refine A_icmp_ne (tgt := 53) dX8_pullsAt_39 (by decide) (fun _ => ?_) (fun _ => ?_)
          · refine A_aload_n dX8_pullsAt_42 rfl ?_
            refine A_getr lf_X8_36 rfl rfl dX8_pullsAt_43 ?_
            refine A_iload_n dX8_pullsAt_46 rfl ?_
            refine A_callVp (a_X2_low (l := l) _ _ ) lc_X8_62 rfl rfl (by decide) (Nat.le_of_ble_eq_true rfl) rfl dX8_pullsAt_47 ?_
            refine A_goto (tgt := 66) dX8_pullsAt_50 (by decide) ?_
            exact (a_X8_pullsAt_b66 (l := l) fu x1 x2 x3 ih _ _ _ ).sub ⟨rfl, rfl, rfl, rfl, rfl, trivial⟩
          · refine A_iload dX8_pullsAt_53 rfl ?_
            refine A_aload_n dX8_pullsAt_55 rfl ?_
            refine A_getr lf_X8_36 rfl rfl dX8_pullsAt_56 ?_
            refine A_iload_n dX8_pullsAt_59 rfl ?_
            refine A_callVp (a_X2_low (l := l) _ _ ) lc_X8_62 rfl rfl (by decide) (Nat.le_of_ble_eq_true rfl) rfl dX8_pullsAt_60 ?_
            refine A_jmin lc_X8_65 (by decide) (Nat.le_of_ble_eq_true rfl) dX8_pullsAt_63 ?_
            exact (a_X8_pullsAt_b66 (l := l) fu x1 x2 x3 ih _ _ _ ).sub ⟨rfl, rfl, rfl, rfl, rfl, trivial⟩
        · refine A_iload dX8_pullsAt_71 rfl ?_
          refine A_aload_n dX8_pullsAt_73 rfl ?_
          refine A_getr lf_X8_36 rfl rfl dX8_pullsAt_74 ?_
          refine A_iload_n dX8_pullsAt_77 rfl ?_
          refine A_callVp (a_X2_high (l := l) _ _ ) lc_X8_71 rfl rfl (by decide) (Nat.le_of_ble_eq_true rfl) rfl dX8_pullsAt_78 ?_
          refine A_jmax lc_X8_74 (by decide) (Nat.le_of_ble_eq_true rfl) dX8_pullsAt_81 ?_
          refine A_istore dX8_pullsAt_84 (Nat.le_of_ble_eq_true rfl) rfl ?_
          exact (a_X8_pullsAt_b86 (l := l) fu x1 x2 x3 ih _ _ _ ).sub ⟨rfl, rfl, rfl, rfl, rfl, rfl, trivial⟩
def F_X8_pullsAt (fu : Nat)  (x1 : Int32) (x2 : Int32) (x3 : Int32)   (M : xM) : Option (Int32 × xM) :=
  F_X8_pullsAt_b6 fu x1 x2 x3 fu (-1 : Int32) (0 : Int32) M
set_option maxRecDepth 100000 in
set_option maxHeartbeats 4000000 in
theorem w_X8_pullsAt {l : Launch} (fu : Nat) (x1 : Int32) (x2 : Int32) (x3 : Int32)     (M : xM)  : AW SC l RX8 cX8_pullsAt 6 (some .int) 6 ki (F_X8_pullsAt fu x1 x2 x3  M) 0 [some (xr 7), some (xi x1), some (xi x2), some (xi x3), none, none] [] M := by
  unfold F_X8_pullsAt
  refine A_iconst (v := (-1 : Int32)) dX8_pullsAt_0 oI_m1 ?_
  refine A_istore dX8_pullsAt_1 (Nat.le_of_ble_eq_true rfl) rfl ?_
  refine A_iconst (v := (0 : Int32)) dX8_pullsAt_3 oI_0 ?_
  refine A_istore dX8_pullsAt_4 (Nat.le_of_ble_eq_true rfl) rfl ?_
  exact (a_X8_pullsAt_b6 (l := l) fu x1 x2 x3  fu _ _ _).sub ⟨rfl, rfl, rfl, rfl, rfl, rfl, trivial⟩
theorem a_X8_pullsAt {l : Launch} (fu : Nat)  (x1 : Int32) (x2 : Int32) (x3 : Int32) (M : xM)  : AM SC l yX8_pullsAt cX8_pullsAt 6 (some .int) 6 ki [xr 7, xi x1, xi x2, xi x3] M (F_X8_pullsAt fu x1 x2 x3  M) :=
  AM.of (L0 := [some (xr 7), some (xi x1), some (xi x2), some (xi x3), none, none]) (w_X8_pullsAt (l := l) fu x1 x2 x3  M ) (by decide +kernel) rfl (Nat.le_of_ble_eq_true rfl) ⟨rfl, rfl, rfl, rfl, trivial⟩
def F_X8_pullsOverAll_b5 (fu : Nat)  (x1 : Int32) (x2 : Int32)  : Nat → Int32 → Int32 → xM → Option (Int32 × xM)
  | 0, _, _, _ => none
  | n + 1, x3, x4, M =>
    (if (M 5 1) ≤ x4 then
    some (x3, M)
    else
    (F_X8_pullsAt fu x4 x1 x2 M).bind fun q1 =>
    (if q1.1 = (-1 : Int32) then
    some ((-1 : Int32), q1.2)
    else
    F_X8_pullsOverAll_b5 fu x1 x2 n (x3 + q1.1) (x4 + (1 : Int32)) q1.2))
set_option maxRecDepth 100000 in
set_option maxHeartbeats 4000000 in
theorem a_X8_pullsOverAll_b5 {l : Launch} (fu : Nat) (x1 : Int32) (x2 : Int32)    : ∀ (n : Nat) (x3 : Int32) (x4 : Int32) (M : xM), AW SC l RX8 cX8_pullsOverAll 6 (some .int) 7 ki (F_X8_pullsOverAll_b5 fu x1 x2 n x3 x4 M) 5 [some (xr 7), some (xi x1), some (xi x2), some (xi x3), some (xi x4), none] [] M := by
  intro n
  induction n with
  | zero =>
    intro x3 x4 M
    exact AW.none
  | succ n ih =>
    intro x3 x4 M
    rw [F_X8_pullsOverAll_b5]
    refine A_iload dX8_pullsOverAll_5 rfl ?_
    refine A_aload_n dX8_pullsOverAll_7 rfl ?_
    refine A_getr lf_X8_32 rfl rfl dX8_pullsOverAll_8 ?_
    refine A_geti lf_X8_77 rfl rfl dX8_pullsOverAll_11 ?_
    refine A_icmp_ge (tgt := 46) dX8_pullsOverAll_14 (by decide) (fun _ => ?_) (fun _ => ?_)
    · refine A_iload_n dX8_pullsOverAll_46 rfl ?_
      exact A_iret rfl dX8_pullsOverAll_47
    · refine A_aload_n dX8_pullsOverAll_17 rfl ?_
      refine A_iload dX8_pullsOverAll_18 rfl ?_
      refine A_iload_n dX8_pullsOverAll_20 rfl ?_
      refine A_iload_n dX8_pullsOverAll_21 rfl ?_
      refine A_callVi (a_X8_pullsAt (l := l) fu _ _ _ _ ) lc_X8_81 rfl rfl (by decide) (Nat.le_of_ble_eq_true rfl) rfl dX8_pullsOverAll_22 (fun q1 Mq1 hq1 => ?_)
      refine A_istore dX8_pullsOverAll_25 (Nat.le_of_ble_eq_true rfl) rfl ?_
      refine A_iload dX8_pullsOverAll_27 rfl ?_
      refine A_iconst (v := (-1 : Int32)) dX8_pullsOverAll_29 oI_m1 ?_
      refine A_icmp_ne (tgt := 35) dX8_pullsOverAll_30 (by decide) (fun _ => ?_) (fun _ => ?_)
      · refine A_iconst (v := (-1 : Int32)) dX8_pullsOverAll_33 oI_m1 ?_
        exact A_iret rfl dX8_pullsOverAll_34
      · refine A_iload_n dX8_pullsOverAll_35 rfl ?_
        refine A_iload dX8_pullsOverAll_36 rfl ?_
        refine A_iadd dX8_pullsOverAll_38 ?_
        refine A_istore_n dX8_pullsOverAll_39 (Nat.le_of_ble_eq_true rfl) rfl ?_
        refine A_iinc dX8_pullsOverAll_40 rfl oI_1 (Nat.le_of_ble_eq_true rfl) rfl ?_
        refine A_goto (tgt := 5) dX8_pullsOverAll_43 (by decide) ?_
        exact (ih _ _ _).sub ⟨rfl, rfl, rfl, rfl, rfl, trivial⟩
def F_X8_pullsOverAll (fu : Nat)  (x1 : Int32) (x2 : Int32)   (M : xM) : Option (Int32 × xM) :=
  F_X8_pullsOverAll_b5 fu x1 x2 fu (0 : Int32) (0 : Int32) M
set_option maxRecDepth 100000 in
set_option maxHeartbeats 4000000 in
theorem w_X8_pullsOverAll {l : Launch} (fu : Nat) (x1 : Int32) (x2 : Int32)     (M : xM)  : AW SC l RX8 cX8_pullsOverAll 6 (some .int) 7 ki (F_X8_pullsOverAll fu x1 x2  M) 0 [some (xr 7), some (xi x1), some (xi x2), none, none, none] [] M := by
  unfold F_X8_pullsOverAll
  refine A_iconst (v := (0 : Int32)) dX8_pullsOverAll_0 oI_0 ?_
  refine A_istore_n dX8_pullsOverAll_1 (Nat.le_of_ble_eq_true rfl) rfl ?_
  refine A_iconst (v := (0 : Int32)) dX8_pullsOverAll_2 oI_0 ?_
  refine A_istore dX8_pullsOverAll_3 (Nat.le_of_ble_eq_true rfl) rfl ?_
  exact (a_X8_pullsOverAll_b5 (l := l) fu x1 x2  fu _ _ _).sub ⟨rfl, rfl, rfl, rfl, rfl, trivial⟩
theorem a_X8_pullsOverAll {l : Launch} (fu : Nat)  (x1 : Int32) (x2 : Int32) (M : xM)  : AM SC l yX8_pullsOverAll cX8_pullsOverAll 6 (some .int) 7 ki [xr 7, xi x1, xi x2] M (F_X8_pullsOverAll fu x1 x2  M) :=
  AM.of (L0 := [some (xr 7), some (xi x1), some (xi x2), none, none, none]) (w_X8_pullsOverAll (l := l) fu x1 x2  M ) (by decide +kernel) rfl (Nat.le_of_ble_eq_true rfl) ⟨rfl, rfl, rfl, trivial⟩
def P_X8_pair  (x0 : Int32) (x1 : Int32) (x2 : Int32)   (M : xM) : Int32 :=
  (((x0 * (256 : Int32)) + (x1 * (16 : Int32))) + x2)
set_option maxRecDepth 100000 in
set_option maxHeartbeats 4000000 in
theorem w_X8_pair {l : Launch} (x0 : Int32) (x1 : Int32) (x2 : Int32)     (M : xM)  : AW SC l RX8 cX8_pair 3 (some .int) 0 ki (some (P_X8_pair x0 x1 x2  M, M)) 0 [some (xi x0), some (xi x1), some (xi x2)] [] M := by
  unfold P_X8_pair
  refine A_iload_n dX8_pair_0 rfl ?_
  refine A_sipush (v := (256 : Int32)) dX8_pair_1 oS_256 ?_
  refine A_imul dX8_pair_4 ?_
  refine A_iload_n dX8_pair_5 rfl ?_
  refine A_bipush (v := (16 : Int32)) dX8_pair_6 oB_16 ?_
  refine A_imul dX8_pair_8 ?_
  refine A_iadd dX8_pair_9 ?_
  refine A_iload_n dX8_pair_10 rfl ?_
  refine A_iadd dX8_pair_11 ?_
  exact A_iret rfl dX8_pair_12
theorem a_X8_pair {l : Launch}  (x0 : Int32) (x1 : Int32) (x2 : Int32) (M : xM)  : AM SC l yX8_pair cX8_pair 3 (some .int) 0 ki [xi x0, xi x1, xi x2] M (some (P_X8_pair  x0 x1 x2  M, M)) :=
  AM.of (L0 := [some (xi x0), some (xi x1), some (xi x2)]) (w_X8_pair (l := l) x0 x1 x2  M ) (by decide +kernel) rfl (Nat.le_of_ble_eq_true rfl) ⟨rfl, rfl, rfl, trivial⟩
def F_X8_lower_b100 (fu : Nat)  (r1 n1 : Nat) (x2 : Int32) (x3 : Int32) (x4 : Int32) (k3 : Int32 → xM → Option (xM)) (k18 : Int32 → Int32 → xM → Option (xM)) (x5 : Int32) (x6 : Int32) (M : xM) : Option (xM) :=
  k18 x5 (x6 + (1 : Int32)) M
set_option maxRecDepth 100000 in
set_option maxHeartbeats 4000000 in
theorem a_X8_lower_b100 {l : Launch} (fu : Nat) (r1 n1 : Nat) (x2 : Int32) (x3 : Int32) (x4 : Int32) (h1 : SC[r1]? = some (.inl (0, n1))) {k3 : Int32 → xM → Option (xM)} {k18 : Int32 → Int32 → xM → Option (xM)} (hk3 : ∀ (b0 : Int32) (M : xM), AW SC l RX8 cX8_lower 8 none 2 kv (k3 b0 M) 3 [some (xr 7), some (xr r1), some (xi x2), some (xi x3), some (xi x4), some (xi b0), none, none] [] M) (hk18 : ∀ (b0 : Int32) (b1 : Int32) (M : xM), AW SC l RX8 cX8_lower 8 none 2 kv (k18 b0 b1 M) 18 [some (xr 7), some (xr r1), some (xi x2), some (xi x3), some (xi x4), some (xi b0), some (xi b1), none] [] M) (x5 : Int32) (x6 : Int32) (M : xM)  : AW SC l RX8 cX8_lower 8 none 2 kv (F_X8_lower_b100 fu r1 n1 x2 x3 x4 k3 k18 x5 x6 M) 100 [some (xr 7), some (xr r1), some (xi x2), some (xi x3), some (xi x4), some (xi x5), some (xi x6), none] [] M := by
  unfold F_X8_lower_b100
  refine A_iinc dX8_lower_100 rfl oI_1 (Nat.le_of_ble_eq_true rfl) rfl ?_
  refine A_goto (tgt := 18) dX8_lower_103 (by decide) ?_
  exact (hk18 _ _ _).sub ⟨rfl, rfl, rfl, rfl, rfl, rfl, rfl, trivial⟩
def F_X8_lower_b106 (fu : Nat)  (r1 n1 : Nat) (x2 : Int32) (x3 : Int32) (x4 : Int32) (k3 : Int32 → xM → Option (xM)) (x5 : Int32) (M : xM) : Option (xM) :=
  k3 (x5 + (1 : Int32)) M
set_option maxRecDepth 100000 in
set_option maxHeartbeats 4000000 in
theorem a_X8_lower_b106 {l : Launch} (fu : Nat) (r1 n1 : Nat) (x2 : Int32) (x3 : Int32) (x4 : Int32) (h1 : SC[r1]? = some (.inl (0, n1))) {k3 : Int32 → xM → Option (xM)} (hk3 : ∀ (b0 : Int32) (M : xM), AW SC l RX8 cX8_lower 8 none 2 kv (k3 b0 M) 3 [some (xr 7), some (xr r1), some (xi x2), some (xi x3), some (xi x4), some (xi b0), none, none] [] M) (x5 : Int32) (M : xM)  : AW SC l RX8 cX8_lower 8 none 2 kv (F_X8_lower_b106 fu r1 n1 x2 x3 x4 k3 x5 M) 106 [some (xr 7), some (xr r1), some (xi x2), some (xi x3), some (xi x4), some (xi x5), none, none] [] M := by
  unfold F_X8_lower_b106
  refine A_iinc dX8_lower_106 rfl oI_1 (Nat.le_of_ble_eq_true rfl) rfl ?_
  refine A_goto (tgt := 3) dX8_lower_109 (by decide) ?_
  exact (hk3 _ _).sub ⟨rfl, rfl, rfl, rfl, rfl, rfl, trivial⟩
def F_X8_lower_b18 (fu : Nat)  (r1 n1 : Nat) (x2 : Int32) (x3 : Int32) (x4 : Int32) (k3 : Int32 → xM → Option (xM)) : Nat → Int32 → Int32 → xM → Option (xM)
  | 0, _, _, _ => none
  | n + 1, x5, x6, M =>
    (if (P_X1_has x4 x5 M) = 0 then
    F_X8_lower_b106 fu r1 n1 x2 x3 x4 k3 x5 M
    else
    (if (M 1 0) ≤ x6 then
    F_X8_lower_b106 fu r1 n1 x2 x3 x4 k3 x5 M
    else
    (if (P_X1_has (P_X0_leversOf x3 M) x6 M) = 0 then
    F_X8_lower_b100 fu r1 n1 x2 x3 x4 k3 (F_X8_lower_b18 fu r1 n1 x2 x3 x4 k3 n) x5 x6 M
    else
    (F_X1_put r1 n1 (P_X8_pair x2 x5 x6 M) (jmin (P_X1_at r1 n1 (P_X8_pair x2 x5 x6 M) M) ((P_X2_low x5 M) - (P_X2_high x6 M))) M).bind fun q1 =>
    F_X8_lower_b100 fu r1 n1 x2 x3 x4 k3 (F_X8_lower_b18 fu r1 n1 x2 x3 x4 k3 n) x5 x6 q1)))
set_option maxRecDepth 100000 in
set_option maxHeartbeats 4000000 in
theorem a_X8_lower_b18 {l : Launch} (fu : Nat) (r1 n1 : Nat) (x2 : Int32) (x3 : Int32) (x4 : Int32) (h1 : SC[r1]? = some (.inl (0, n1))) {k3 : Int32 → xM → Option (xM)} (hk3 : ∀ (b0 : Int32) (M : xM), AW SC l RX8 cX8_lower 8 none 2 kv (k3 b0 M) 3 [some (xr 7), some (xr r1), some (xi x2), some (xi x3), some (xi x4), some (xi b0), none, none] [] M) : ∀ (n : Nat) (x5 : Int32) (x6 : Int32) (M : xM), AW SC l RX8 cX8_lower 8 none 2 kv (F_X8_lower_b18 fu r1 n1 x2 x3 x4 k3 n x5 x6 M) 18 [some (xr 7), some (xr r1), some (xi x2), some (xi x3), some (xi x4), some (xi x5), some (xi x6), none] [] M := by
  intro n
  induction n with
  | zero =>
    intro x5 x6 M
    exact AW.none
  | succ n ih =>
    intro x5 x6 M
    rw [F_X8_lower_b18]
    refine A_iload dX8_lower_18 rfl ?_
    refine A_iload dX8_lower_20 rfl ?_
    refine A_callSp (a_X1_has (S := SC) (l := l) _ _ _ ) lc_X8_100 rfl (by decide) (Nat.le_of_ble_eq_true rfl) rfl dX8_lower_22 ?_
    refine A_if_eq (tgt := 106) dX8_lower_25 (by decide) (fun _ => ?_) (fun _ => ?_)
    · exact (a_X8_lower_b106 (l := l) fu r1 n1 x2 x3 x4 h1 hk3 _ _ ).sub ⟨rfl, rfl, rfl, rfl, rfl, rfl, trivial⟩
    · refine A_iload dX8_lower_28 rfl ?_
      refine A_aload_n dX8_lower_30 rfl ?_
      refine A_getr lf_X8_28 rfl rfl dX8_lower_31 ?_
      refine A_geti lf_X8_97 rfl rfl dX8_lower_34 ?_
      refine A_icmp_ge (tgt := 106) dX8_lower_37 (by decide) (fun _ => ?_) (fun _ => ?_)
      · exact (a_X8_lower_b106 (l := l) fu r1 n1 x2 x3 x4 h1 hk3 _ _ ).sub ⟨rfl, rfl, rfl, rfl, rfl, rfl, trivial⟩
      · refine A_aload_n dX8_lower_40 rfl ?_
        refine A_getr lf_X8_28 rfl rfl dX8_lower_41 ?_
        refine A_iload_n dX8_lower_44 rfl ?_
        refine A_callVp (a_X0_leversOf (l := l) _ _ ) lc_X8_103 rfl rfl (by decide) (Nat.le_of_ble_eq_true rfl) rfl dX8_lower_45 ?_
        refine A_iload dX8_lower_48 rfl ?_
        refine A_callSp (a_X1_has (S := SC) (l := l) _ _ _ ) lc_X8_100 rfl (by decide) (Nat.le_of_ble_eq_true rfl) rfl dX8_lower_50 ?_
        refine A_if_eq (tgt := 100) dX8_lower_53 (by decide) (fun _ => ?_) (fun _ => ?_)
        · exact (a_X8_lower_b100 (l := l) fu r1 n1 x2 x3 x4 h1 hk3 ih _ _ _ ).sub ⟨rfl, rfl, rfl, rfl, rfl, rfl, rfl, trivial⟩
        · refine A_iload_n dX8_lower_56 rfl ?_
          refine A_iload dX8_lower_57 rfl ?_
          refine A_iload dX8_lower_59 rfl ?_
          refine A_callSp (a_X8_pair (l := l) _ _ _ _ ) lc_X8_106 rfl (by decide) (Nat.le_of_ble_eq_true rfl) rfl dX8_lower_61 ?_
          refine A_istore dX8_lower_64 (Nat.le_of_ble_eq_true rfl) rfl ?_
          refine A_aload_n dX8_lower_66 rfl ?_
          refine A_iload dX8_lower_67 rfl ?_
          refine A_aload_n dX8_lower_69 rfl ?_
          refine A_iload dX8_lower_70 rfl ?_
          refine A_callSp (a_X1_at (S := SC) (l := l) _ _ _ _ h1) lc_X8_43 rfl (by decide) (Nat.le_of_ble_eq_true rfl) rfl dX8_lower_72 ?_
          refine A_aload_n dX8_lower_75 rfl ?_
          refine A_getr lf_X8_36 rfl rfl dX8_lower_76 ?_
          refine A_iload dX8_lower_79 rfl ?_
          refine A_callVp (a_X2_low (l := l) _ _ ) lc_X8_62 rfl rfl (by decide) (Nat.le_of_ble_eq_true rfl) rfl dX8_lower_81 ?_
          refine A_aload_n dX8_lower_84 rfl ?_
          refine A_getr lf_X8_36 rfl rfl dX8_lower_85 ?_
          refine A_iload dX8_lower_88 rfl ?_
          refine A_callVp (a_X2_high (l := l) _ _ ) lc_X8_71 rfl rfl (by decide) (Nat.le_of_ble_eq_true rfl) rfl dX8_lower_90 ?_
          refine A_isub dX8_lower_93 ?_
          refine A_jmin lc_X8_65 (by decide) (Nat.le_of_ble_eq_true rfl) dX8_lower_94 ?_
          refine A_callSv (a_X1_put (S := SC) (l := l) _ _ _ _ _ h1) lc_X8_86 rfl (by decide) (Nat.le_of_ble_eq_true rfl) rfl dX8_lower_97 (fun q1 hq1 => ?_)
          exact (a_X8_lower_b100 (l := l) fu r1 n1 x2 x3 x4 h1 hk3 ih _ _ _ ).sub ⟨rfl, rfl, rfl, rfl, rfl, rfl, rfl, trivial⟩
def F_X8_lower_b3 (fu : Nat)  (r1 n1 : Nat) (x2 : Int32) (x3 : Int32) (x4 : Int32)  : Nat → Int32 → xM → Option (xM)
  | 0, _, _ => none
  | n + 1, x5, M =>
    (if (M 1 0) ≤ x5 then
    some M
    else
    F_X8_lower_b18 fu r1 n1 x2 x3 x4 (F_X8_lower_b3 fu r1 n1 x2 x3 x4 n) fu x5 (0 : Int32) M)
set_option maxRecDepth 100000 in
set_option maxHeartbeats 4000000 in
theorem a_X8_lower_b3 {l : Launch} (fu : Nat) (r1 n1 : Nat) (x2 : Int32) (x3 : Int32) (x4 : Int32) (h1 : SC[r1]? = some (.inl (0, n1)))   : ∀ (n : Nat) (x5 : Int32) (M : xM), AW SC l RX8 cX8_lower 8 none 2 kv (F_X8_lower_b3 fu r1 n1 x2 x3 x4 n x5 M) 3 [some (xr 7), some (xr r1), some (xi x2), some (xi x3), some (xi x4), some (xi x5), none, none] [] M := by
  intro n
  induction n with
  | zero =>
    intro x5 M
    exact AW.none
  | succ n ih =>
    intro x5 M
    rw [F_X8_lower_b3]
    refine A_iload dX8_lower_3 rfl ?_
    refine A_aload_n dX8_lower_5 rfl ?_
    refine A_getr lf_X8_28 rfl rfl dX8_lower_6 ?_
    refine A_geti lf_X8_97 rfl rfl dX8_lower_9 ?_
    refine A_icmp_ge (tgt := 112) dX8_lower_12 (by decide) (fun _ => ?_) (fun _ => ?_)
    · exact A_vret rfl dX8_lower_112
    · refine A_iconst (v := (0 : Int32)) dX8_lower_15 oI_0 ?_
      refine A_istore dX8_lower_16 (Nat.le_of_ble_eq_true rfl) rfl ?_
      exact (a_X8_lower_b18 (l := l) fu r1 n1 x2 x3 x4 h1 ih fu _ _ _).sub ⟨rfl, rfl, rfl, rfl, rfl, rfl, rfl, trivial⟩
def F_X8_lower (fu : Nat)  (r1 n1 : Nat) (x2 : Int32) (x3 : Int32) (x4 : Int32)   (M : xM) : Option (xM) :=
  F_X8_lower_b3 fu r1 n1 x2 x3 x4 fu (0 : Int32) M
set_option maxRecDepth 100000 in
set_option maxHeartbeats 4000000 in
theorem w_X8_lower {l : Launch} (fu : Nat) (r1 n1 : Nat) (x2 : Int32) (x3 : Int32) (x4 : Int32) (h1 : SC[r1]? = some (.inl (0, n1)))    (M : xM)  : AW SC l RX8 cX8_lower 8 none 2 kv (F_X8_lower fu r1 n1 x2 x3 x4  M) 0 [some (xr 7), some (xr r1), some (xi x2), some (xi x3), some (xi x4), none, none, none] [] M := by
  unfold F_X8_lower
  refine A_iconst (v := (0 : Int32)) dX8_lower_0 oI_0 ?_
  refine A_istore dX8_lower_1 (Nat.le_of_ble_eq_true rfl) rfl ?_
  exact (a_X8_lower_b3 (l := l) fu r1 n1 x2 x3 x4 h1  fu _ _).sub ⟨rfl, rfl, rfl, rfl, rfl, rfl, trivial⟩
theorem a_X8_lower {l : Launch} (fu : Nat)  (r1 n1 : Nat) (x2 : Int32) (x3 : Int32) (x4 : Int32) (M : xM) (h1 : SC[r1]? = some (.inl (0, n1))) : AM SC l yX8_lower cX8_lower 8 none 2 kv [xr 7, xr r1, xi x2, xi x3, xi x4] M (F_X8_lower fu r1 n1 x2 x3 x4  M) :=
  AM.of (L0 := [some (xr 7), some (xr r1), some (xi x2), some (xi x3), some (xi x4), none, none, none]) (w_X8_lower (l := l) fu r1 n1 x2 x3 x4 h1  M ) (by decide +kernel) rfl (Nat.le_of_ble_eq_true rfl) ⟨rfl, rfl, rfl, rfl, rfl, trivial⟩
def F_X8_weigh_b90 (fu : Nat)  (x1 : Int32) (x2 : Int32) (k2 : Int32 → xM → Option (Int32 × xM)) (k53 : Int32 → Int32 → Int32 → xM → Option (Int32 × xM)) (x3 : Int32) (x4 : Int32) (x5 : Int32) (M : xM) : Option (Int32 × xM) :=
  k53 x3 x4 (x5 + (1 : Int32)) M
set_option maxRecDepth 100000 in
set_option maxHeartbeats 4000000 in
theorem a_X8_weigh_b90 {l : Launch} (fu : Nat) (x1 : Int32) (x2 : Int32)  {k2 : Int32 → xM → Option (Int32 × xM)} {k53 : Int32 → Int32 → Int32 → xM → Option (Int32 × xM)} (hk2 : ∀ (b0 : Int32) (M : xM), AW SC l RX8 cX8_weigh 6 (some .boolean) 6 ki (k2 b0 M) 2 [some (xr 7), some (xi x1), some (xi x2), some (xi b0), none, none] [] M) (hk53 : ∀ (b0 : Int32) (b1 : Int32) (b2 : Int32) (M : xM), AW SC l RX8 cX8_weigh 6 (some .boolean) 6 ki (k53 b0 b1 b2 M) 53 [some (xr 7), some (xi x1), some (xi x2), some (xi b0), some (xi b1), some (xi b2)] [] M) (x3 : Int32) (x4 : Int32) (x5 : Int32) (M : xM)  : AW SC l RX8 cX8_weigh 6 (some .boolean) 6 ki (F_X8_weigh_b90 fu x1 x2 k2 k53 x3 x4 x5 M) 90 [some (xr 7), some (xi x1), some (xi x2), some (xi x3), some (xi x4), some (xi x5)] [] M := by
  unfold F_X8_weigh_b90
  refine A_iinc dX8_weigh_90 rfl oI_1 (Nat.le_of_ble_eq_true rfl) rfl ?_
  refine A_goto (tgt := 53) dX8_weigh_93 (by decide) ?_
  exact (hk53 _ _ _ _).sub ⟨rfl, rfl, rfl, rfl, rfl, rfl, trivial⟩
def F_X8_weigh_b53 (fu : Nat)  (x1 : Int32) (x2 : Int32) (k2 : Int32 → xM → Option (Int32 × xM)) : Nat → Int32 → Int32 → Int32 → xM → Option (Int32 × xM)
  | 0, _, _, _, _ => none
  | n + 1, x3, x4, x5, M =>
    (if (P_X2_setsOf x3 M) ≤ x5 then
    (if x4 = 0 then
    some ((0 : Int32), M)
    else
    k2 (x3 + (1 : Int32)) M)
    else
    (F_X8_counts fu x3 x5 M).bind fun q1 =>
    (if q1.1 = 0 then
    F_X8_weigh_b90 fu x1 x2 k2 (F_X8_weigh_b53 fu x1 x2 k2 n) x3 x4 x5 q1.2
    else
    (F_X8_lower fu 39 1536 x3 x1 x2 q1.2).bind fun q2 =>
    F_X8_weigh_b90 fu x1 x2 k2 (F_X8_weigh_b53 fu x1 x2 k2 n) x3 (1 : Int32) x5 q2))
set_option maxRecDepth 100000 in
set_option maxHeartbeats 4000000 in
theorem a_X8_weigh_b53 {l : Launch} (fu : Nat) (x1 : Int32) (x2 : Int32)  {k2 : Int32 → xM → Option (Int32 × xM)} (hk2 : ∀ (b0 : Int32) (M : xM), AW SC l RX8 cX8_weigh 6 (some .boolean) 6 ki (k2 b0 M) 2 [some (xr 7), some (xi x1), some (xi x2), some (xi b0), none, none] [] M) : ∀ (n : Nat) (x3 : Int32) (x4 : Int32) (x5 : Int32) (M : xM), AW SC l RX8 cX8_weigh 6 (some .boolean) 6 ki (F_X8_weigh_b53 fu x1 x2 k2 n x3 x4 x5 M) 53 [some (xr 7), some (xi x1), some (xi x2), some (xi x3), some (xi x4), some (xi x5)] [] M := by
  intro n
  induction n with
  | zero =>
    intro x3 x4 x5 M
    exact AW.none
  | succ n ih =>
    intro x3 x4 x5 M
    rw [F_X8_weigh_b53]
    refine A_iload dX8_weigh_53 rfl ?_
    refine A_aload_n dX8_weigh_55 rfl ?_
    refine A_getr lf_X8_36 rfl rfl dX8_weigh_56 ?_
    refine A_iload_n dX8_weigh_59 rfl ?_
    refine A_callVp (a_X2_setsOf (l := l) _ _ ) lc_X8_55 rfl rfl (by decide) (Nat.le_of_ble_eq_true rfl) rfl dX8_weigh_60 ?_
    refine A_icmp_ge (tgt := 96) dX8_weigh_63 (by decide) (fun _ => ?_) (fun _ => ?_)
    · refine A_iload dX8_weigh_96 rfl ?_
      refine A_if_ne (tgt := 103) dX8_weigh_98 (by decide) (fun _ => ?_) (fun _ => ?_)
      · refine A_iconst (v := (0 : Int32)) dX8_weigh_101 oI_0 ?_
        exact A_zret' rfl (Or.inl rfl) dX8_weigh_102
      · refine A_iinc dX8_weigh_103 rfl oI_1 (Nat.le_of_ble_eq_true rfl) rfl ?_
        refine A_goto (tgt := 2) dX8_weigh_106 (by decide) ?_
        exact (hk2 _ _).sub ⟨rfl, rfl, rfl, rfl, trivial⟩
    · refine A_aload_n dX8_weigh_66 rfl ?_
      refine A_iload_n dX8_weigh_67 rfl ?_
      refine A_iload dX8_weigh_68 rfl ?_
      refine A_callVi (a_X8_counts (l := l) fu _ _ _ ) lc_X8_59 rfl rfl (by decide) (Nat.le_of_ble_eq_true rfl) rfl dX8_weigh_70 (fun q1 Mq1 hq1 => ?_)
      refine A_if_eq (tgt := 90) dX8_weigh_73 (by decide) (fun _ => ?_) (fun _ => ?_)
      · exact (a_X8_weigh_b90 (l := l) fu x1 x2 hk2 ih _ _ _ _ ).sub ⟨rfl, rfl, rfl, rfl, rfl, rfl, trivial⟩
      · refine A_iconst (v := (1 : Int32)) dX8_weigh_76 oI_1 ?_
        refine A_istore dX8_weigh_77 (Nat.le_of_ble_eq_true rfl) rfl ?_
        refine A_aload_n dX8_weigh_79 rfl ?_
        refine A_aload_n dX8_weigh_80 rfl ?_
        refine A_getr lf_X8_15 rfl rfl dX8_weigh_81 ?_
        refine A_iload_n dX8_weigh_84 rfl ?_
        refine A_iload_n dX8_weigh_85 rfl ?_
        refine A_iload_n dX8_weigh_86 rfl ?_
        refine A_callVv (a_X8_lower (l := l) fu _ _ _ _ _ _ rfl) lc_X8_90 rfl rfl (by decide) (Nat.le_of_ble_eq_true rfl) rfl dX8_weigh_87 (fun q2 hq2 => ?_)
        exact (a_X8_weigh_b90 (l := l) fu x1 x2 hk2 ih _ _ _ _ ).sub ⟨rfl, rfl, rfl, rfl, rfl, rfl, trivial⟩
def F_X8_weigh_b16 (fu : Nat)  (x1 : Int32) (x2 : Int32) (k2 : Int32 → xM → Option (Int32 × xM)) : Nat → Int32 → Int32 → xM → Option (Int32 × xM)
  | 0, _, _, _ => none
  | n + 1, x3, x4, M =>
    (if (256 : Int32) ≤ x4 then
    F_X8_weigh_b53 fu x1 x2 k2 fu x3 (0 : Int32) (0 : Int32) M
    else
    (F_X1_put 39 1536 ((x3 * (256 : Int32)) + x4) (1000000 : Int32) M).bind fun q1 =>
    F_X8_weigh_b16 fu x1 x2 k2 n x3 (x4 + (1 : Int32)) q1)
set_option maxRecDepth 100000 in
set_option maxHeartbeats 4000000 in
theorem a_X8_weigh_b16 {l : Launch} (fu : Nat) (x1 : Int32) (x2 : Int32)  {k2 : Int32 → xM → Option (Int32 × xM)} (hk2 : ∀ (b0 : Int32) (M : xM), AW SC l RX8 cX8_weigh 6 (some .boolean) 6 ki (k2 b0 M) 2 [some (xr 7), some (xi x1), some (xi x2), some (xi b0), none, none] [] M) : ∀ (n : Nat) (x3 : Int32) (x4 : Int32) (M : xM), AW SC l RX8 cX8_weigh 6 (some .boolean) 6 ki (F_X8_weigh_b16 fu x1 x2 k2 n x3 x4 M) 16 [some (xr 7), some (xi x1), some (xi x2), some (xi x3), some (xi x4), none] [] M := by
  intro n
  induction n with
  | zero =>
    intro x3 x4 M
    exact AW.none
  | succ n ih =>
    intro x3 x4 M
    rw [F_X8_weigh_b16]
    refine A_iload dX8_weigh_16 rfl ?_
    refine A_sipush (v := (256 : Int32)) dX8_weigh_18 oS_256 ?_
    refine A_icmp_ge (tgt := 47) dX8_weigh_21 (by decide) (fun _ => ?_) (fun _ => ?_)
    · refine A_iconst (v := (0 : Int32)) dX8_weigh_47 oI_0 ?_
      refine A_istore dX8_weigh_48 (Nat.le_of_ble_eq_true rfl) rfl ?_
      refine A_iconst (v := (0 : Int32)) dX8_weigh_50 oI_0 ?_
      refine A_istore dX8_weigh_51 (Nat.le_of_ble_eq_true rfl) rfl ?_
      exact (a_X8_weigh_b53 (l := l) fu x1 x2 hk2 fu _ _ _ _).sub ⟨rfl, rfl, rfl, rfl, rfl, rfl, trivial⟩
    · refine A_aload_n dX8_weigh_24 rfl ?_
      refine A_getr lf_X8_15 rfl rfl dX8_weigh_25 ?_
      refine A_iload_n dX8_weigh_28 rfl ?_
      refine A_sipush (v := (256 : Int32)) dX8_weigh_29 oS_256 ?_
      refine A_imul dX8_weigh_32 ?_
      refine A_iload dX8_weigh_33 rfl ?_
      refine A_iadd dX8_weigh_35 ?_
      refine A_ldc (v := (1000000 : Int32)) dX8_weigh_36 lk_X8_85 ?_
      refine A_callSv (a_X1_put (S := SC) (l := l) _ _ _ _ _ rfl) lc_X8_86 rfl (by decide) (Nat.le_of_ble_eq_true rfl) rfl dX8_weigh_38 (fun q1 hq1 => ?_)
      refine A_iinc dX8_weigh_41 rfl oI_1 (Nat.le_of_ble_eq_true rfl) rfl ?_
      refine A_goto (tgt := 16) dX8_weigh_44 (by decide) ?_
      exact (ih _ _ _).sub ⟨rfl, rfl, rfl, rfl, rfl, trivial⟩
def F_X8_weigh_b2 (fu : Nat)  (x1 : Int32) (x2 : Int32)  : Nat → Int32 → xM → Option (Int32 × xM)
  | 0, _, _ => none
  | n + 1, x3, M =>
    (if (M 5 1) ≤ x3 then
    some ((1 : Int32), M)
    else
    F_X8_weigh_b16 fu x1 x2 (F_X8_weigh_b2 fu x1 x2 n) fu x3 (0 : Int32) M)
set_option maxRecDepth 100000 in
set_option maxHeartbeats 4000000 in
theorem a_X8_weigh_b2 {l : Launch} (fu : Nat) (x1 : Int32) (x2 : Int32)    : ∀ (n : Nat) (x3 : Int32) (M : xM), AW SC l RX8 cX8_weigh 6 (some .boolean) 6 ki (F_X8_weigh_b2 fu x1 x2 n x3 M) 2 [some (xr 7), some (xi x1), some (xi x2), some (xi x3), none, none] [] M := by
  intro n
  induction n with
  | zero =>
    intro x3 M
    exact AW.none
  | succ n ih =>
    intro x3 M
    rw [F_X8_weigh_b2]
    refine A_iload_n dX8_weigh_2 rfl ?_
    refine A_aload_n dX8_weigh_3 rfl ?_
    refine A_getr lf_X8_32 rfl rfl dX8_weigh_4 ?_
    refine A_geti lf_X8_77 rfl rfl dX8_weigh_7 ?_
    refine A_icmp_ge (tgt := 109) dX8_weigh_10 (by decide) (fun _ => ?_) (fun _ => ?_)
    · refine A_iconst (v := (1 : Int32)) dX8_weigh_109 oI_1 ?_
      exact A_zret' rfl (Or.inr rfl) dX8_weigh_110
    · refine A_iconst (v := (0 : Int32)) dX8_weigh_13 oI_0 ?_
      refine A_istore dX8_weigh_14 (Nat.le_of_ble_eq_true rfl) rfl ?_
      exact (a_X8_weigh_b16 (l := l) fu x1 x2 ih fu _ _ _).sub ⟨rfl, rfl, rfl, rfl, rfl, trivial⟩
def F_X8_weigh (fu : Nat)  (x1 : Int32) (x2 : Int32)   (M : xM) : Option (Int32 × xM) :=
  F_X8_weigh_b2 fu x1 x2 fu (0 : Int32) M
set_option maxRecDepth 100000 in
set_option maxHeartbeats 4000000 in
theorem w_X8_weigh {l : Launch} (fu : Nat) (x1 : Int32) (x2 : Int32)     (M : xM)  : AW SC l RX8 cX8_weigh 6 (some .boolean) 6 ki (F_X8_weigh fu x1 x2  M) 0 [some (xr 7), some (xi x1), some (xi x2), none, none, none] [] M := by
  unfold F_X8_weigh
  refine A_iconst (v := (0 : Int32)) dX8_weigh_0 oI_0 ?_
  refine A_istore_n dX8_weigh_1 (Nat.le_of_ble_eq_true rfl) rfl ?_
  exact (a_X8_weigh_b2 (l := l) fu x1 x2  fu _ _).sub ⟨rfl, rfl, rfl, rfl, trivial⟩
theorem a_X8_weigh {l : Launch} (fu : Nat)  (x1 : Int32) (x2 : Int32) (M : xM)  : AM SC l yX8_weigh cX8_weigh 6 (some .boolean) 6 ki [xr 7, xi x1, xi x2] M (F_X8_weigh fu x1 x2  M) :=
  AM.of (L0 := [some (xr 7), some (xi x1), some (xi x2), none, none, none]) (w_X8_weigh (l := l) fu x1 x2  M ) (by decide +kernel) rfl (Nat.le_of_ble_eq_true rfl) ⟨rfl, rfl, rfl, trivial⟩
def F_X8_weighOpened_b77 (fu : Nat)  (x1 : Int32) (x2 : Int32) (k2 : Int32 → xM → Option (xM)) (x3 : Int32) (M : xM) : Option (xM) :=
  k2 (x3 + (1 : Int32)) M
set_option maxRecDepth 100000 in
set_option maxHeartbeats 4000000 in
theorem a_X8_weighOpened_b77 {l : Launch} (fu : Nat) (x1 : Int32) (x2 : Int32)  {k2 : Int32 → xM → Option (xM)} (hk2 : ∀ (b0 : Int32) (M : xM), AW SC l RX8 cX8_weighOpened 5 none 6 kv (k2 b0 M) 2 [some (xr 7), some (xi x1), some (xi x2), some (xi b0), none] [] M) (x3 : Int32) (M : xM)  : AW SC l RX8 cX8_weighOpened 5 none 6 kv (F_X8_weighOpened_b77 fu x1 x2 k2 x3 M) 77 [some (xr 7), some (xi x1), some (xi x2), some (xi x3), none] [] M := by
  unfold F_X8_weighOpened_b77
  refine A_iinc dX8_weighOpened_77 rfl oI_1 (Nat.le_of_ble_eq_true rfl) rfl ?_
  refine A_goto (tgt := 2) dX8_weighOpened_80 (by decide) ?_
  exact (hk2 _ _).sub ⟨rfl, rfl, rfl, rfl, trivial⟩
def F_X8_weighOpened_b16 (fu : Nat)  (x1 : Int32) (x2 : Int32) (k2 : Int32 → xM → Option (xM)) : Nat → Int32 → Int32 → xM → Option (xM)
  | 0, _, _, _ => none
  | n + 1, x3, x4, M =>
    (if (256 : Int32) ≤ x4 then
    (F_X2_fewest fu x3 M).bind fun q1 =>
    (F_X2_lay fu x3 q1.1 q1.2).bind fun q2 =>
    (if q2.1 = 0 then
    F_X8_weighOpened_b77 fu x1 x2 k2 x3 q2.2
    else
    (F_X8_lower fu 40 1536 x3 x1 x2 q2.2).bind fun q3 =>
    F_X8_weighOpened_b77 fu x1 x2 k2 x3 q3)
    else
    (F_X1_put 40 1536 ((x3 * (256 : Int32)) + x4) (1000000 : Int32) M).bind fun q4 =>
    F_X8_weighOpened_b16 fu x1 x2 k2 n x3 (x4 + (1 : Int32)) q4)
set_option maxRecDepth 100000 in
set_option maxHeartbeats 4000000 in
theorem a_X8_weighOpened_b16 {l : Launch} (fu : Nat) (x1 : Int32) (x2 : Int32)  {k2 : Int32 → xM → Option (xM)} (hk2 : ∀ (b0 : Int32) (M : xM), AW SC l RX8 cX8_weighOpened 5 none 6 kv (k2 b0 M) 2 [some (xr 7), some (xi x1), some (xi x2), some (xi b0), none] [] M) : ∀ (n : Nat) (x3 : Int32) (x4 : Int32) (M : xM), AW SC l RX8 cX8_weighOpened 5 none 6 kv (F_X8_weighOpened_b16 fu x1 x2 k2 n x3 x4 M) 16 [some (xr 7), some (xi x1), some (xi x2), some (xi x3), some (xi x4)] [] M := by
  intro n
  induction n with
  | zero =>
    intro x3 x4 M
    exact AW.none
  | succ n ih =>
    intro x3 x4 M
    rw [F_X8_weighOpened_b16]
    refine A_iload dX8_weighOpened_16 rfl ?_
    refine A_sipush (v := (256 : Int32)) dX8_weighOpened_18 oS_256 ?_
    refine A_icmp_ge (tgt := 47) dX8_weighOpened_21 (by decide) (fun _ => ?_) (fun _ => ?_)
    · refine A_aload_n dX8_weighOpened_47 rfl ?_
      refine A_getr lf_X8_36 rfl rfl dX8_weighOpened_48 ?_
      refine A_iload_n dX8_weighOpened_51 rfl ?_
      refine A_aload_n dX8_weighOpened_52 rfl ?_
      refine A_getr lf_X8_36 rfl rfl dX8_weighOpened_53 ?_
      refine A_iload_n dX8_weighOpened_56 rfl ?_
      refine A_callVi (a_X2_fewest (l := l) fu _ _ ) lc_X8_94 rfl rfl (by decide) (Nat.le_of_ble_eq_true rfl) rfl dX8_weighOpened_57 (fun q1 Mq1 hq1 => ?_)
      refine A_callVi (a_X2_lay (l := l) fu _ _ _ ) lc_X8_49 rfl rfl (by decide) (Nat.le_of_ble_eq_true rfl) rfl dX8_weighOpened_60 (fun q2 Mq2 hq2 => ?_)
      refine A_if_eq (tgt := 77) dX8_weighOpened_63 (by decide) (fun _ => ?_) (fun _ => ?_)
      · exact (a_X8_weighOpened_b77 (l := l) fu x1 x2 hk2 _ _ ).sub ⟨rfl, rfl, rfl, rfl, trivial⟩
      · refine A_aload_n dX8_weighOpened_66 rfl ?_
        refine A_aload_n dX8_weighOpened_67 rfl ?_
        refine A_getr lf_X8_19 rfl rfl dX8_weighOpened_68 ?_
        refine A_iload_n dX8_weighOpened_71 rfl ?_
        refine A_iload_n dX8_weighOpened_72 rfl ?_
        refine A_iload_n dX8_weighOpened_73 rfl ?_
        refine A_callVv (a_X8_lower (l := l) fu _ _ _ _ _ _ rfl) lc_X8_90 rfl rfl (by decide) (Nat.le_of_ble_eq_true rfl) rfl dX8_weighOpened_74 (fun q3 hq3 => ?_)
        exact (a_X8_weighOpened_b77 (l := l) fu x1 x2 hk2 _ _ ).sub ⟨rfl, rfl, rfl, rfl, trivial⟩
    · refine A_aload_n dX8_weighOpened_24 rfl ?_
      refine A_getr lf_X8_19 rfl rfl dX8_weighOpened_25 ?_
      refine A_iload_n dX8_weighOpened_28 rfl ?_
      refine A_sipush (v := (256 : Int32)) dX8_weighOpened_29 oS_256 ?_
      refine A_imul dX8_weighOpened_32 ?_
      refine A_iload dX8_weighOpened_33 rfl ?_
      refine A_iadd dX8_weighOpened_35 ?_
      refine A_ldc (v := (1000000 : Int32)) dX8_weighOpened_36 lk_X8_85 ?_
      refine A_callSv (a_X1_put (S := SC) (l := l) _ _ _ _ _ rfl) lc_X8_86 rfl (by decide) (Nat.le_of_ble_eq_true rfl) rfl dX8_weighOpened_38 (fun q4 hq4 => ?_)
      refine A_iinc dX8_weighOpened_41 rfl oI_1 (Nat.le_of_ble_eq_true rfl) rfl ?_
      refine A_goto (tgt := 16) dX8_weighOpened_44 (by decide) ?_
      exact (ih _ _ _).sub ⟨rfl, rfl, rfl, rfl, rfl, trivial⟩
def F_X8_weighOpened_b2 (fu : Nat)  (x1 : Int32) (x2 : Int32)  : Nat → Int32 → xM → Option (xM)
  | 0, _, _ => none
  | n + 1, x3, M =>
    (if (M 5 1) ≤ x3 then
    some M
    else
    F_X8_weighOpened_b16 fu x1 x2 (F_X8_weighOpened_b2 fu x1 x2 n) fu x3 (0 : Int32) M)
set_option maxRecDepth 100000 in
set_option maxHeartbeats 4000000 in
theorem a_X8_weighOpened_b2 {l : Launch} (fu : Nat) (x1 : Int32) (x2 : Int32)    : ∀ (n : Nat) (x3 : Int32) (M : xM), AW SC l RX8 cX8_weighOpened 5 none 6 kv (F_X8_weighOpened_b2 fu x1 x2 n x3 M) 2 [some (xr 7), some (xi x1), some (xi x2), some (xi x3), none] [] M := by
  intro n
  induction n with
  | zero =>
    intro x3 M
    exact AW.none
  | succ n ih =>
    intro x3 M
    rw [F_X8_weighOpened_b2]
    refine A_iload_n dX8_weighOpened_2 rfl ?_
    refine A_aload_n dX8_weighOpened_3 rfl ?_
    refine A_getr lf_X8_32 rfl rfl dX8_weighOpened_4 ?_
    refine A_geti lf_X8_77 rfl rfl dX8_weighOpened_7 ?_
    refine A_icmp_ge (tgt := 83) dX8_weighOpened_10 (by decide) (fun _ => ?_) (fun _ => ?_)
    · exact A_vret rfl dX8_weighOpened_83
    · refine A_iconst (v := (0 : Int32)) dX8_weighOpened_13 oI_0 ?_
      refine A_istore dX8_weighOpened_14 (Nat.le_of_ble_eq_true rfl) rfl ?_
      exact (a_X8_weighOpened_b16 (l := l) fu x1 x2 ih fu _ _ _).sub ⟨rfl, rfl, rfl, rfl, rfl, trivial⟩
def F_X8_weighOpened (fu : Nat)  (x1 : Int32) (x2 : Int32)   (M : xM) : Option (xM) :=
  F_X8_weighOpened_b2 fu x1 x2 fu (0 : Int32) M
set_option maxRecDepth 100000 in
set_option maxHeartbeats 4000000 in
theorem w_X8_weighOpened {l : Launch} (fu : Nat) (x1 : Int32) (x2 : Int32)     (M : xM)  : AW SC l RX8 cX8_weighOpened 5 none 6 kv (F_X8_weighOpened fu x1 x2  M) 0 [some (xr 7), some (xi x1), some (xi x2), none, none] [] M := by
  unfold F_X8_weighOpened
  refine A_iconst (v := (0 : Int32)) dX8_weighOpened_0 oI_0 ?_
  refine A_istore_n dX8_weighOpened_1 (Nat.le_of_ble_eq_true rfl) rfl ?_
  exact (a_X8_weighOpened_b2 (l := l) fu x1 x2  fu _ _).sub ⟨rfl, rfl, rfl, rfl, trivial⟩
theorem a_X8_weighOpened {l : Launch} (fu : Nat)  (x1 : Int32) (x2 : Int32) (M : xM)  : AM SC l yX8_weighOpened cX8_weighOpened 5 none 6 kv [xr 7, xi x1, xi x2] M (F_X8_weighOpened fu x1 x2  M) :=
  AM.of (L0 := [some (xr 7), some (xi x1), some (xi x2), none, none]) (w_X8_weighOpened (l := l) fu x1 x2  M ) (by decide +kernel) rfl (Nat.le_of_ble_eq_true rfl) ⟨rfl, rfl, rfl, trivial⟩
def F_X8_lead_b38 (fu : Nat)  (x1 : Int32) (x2 : Int32) (x3 : Int32) (k6 : Int32 → Int32 → xM → Option (Int32 × xM)) (x4 : Int32) (x5 : Int32) (q0 : Nat) (M : xM) : Option (Int32 × xM) :=
  k6 (x4 + (P_X1_at q0 1536 (P_X8_pair x5 x1 x2 M) M)) (x5 + (1 : Int32)) M
set_option maxRecDepth 100000 in
set_option maxHeartbeats 4000000 in
theorem a_X8_lead_b38 {l : Launch} (fu : Nat) (x1 : Int32) (x2 : Int32) (x3 : Int32)  {k6 : Int32 → Int32 → xM → Option (Int32 × xM)} (hk6 : ∀ (b0 : Int32) (b1 : Int32) (M : xM), AW SC l RX8 cX8_lead 7 (some .int) 1 ki (k6 b0 b1 M) 6 [some (xr 7), some (xi x1), some (xi x2), some (xi x3), some (xi b0), some (xi b1), none] [] M) (x4 : Int32) (x5 : Int32) (q0 : Nat) (M : xM) (g0 : SC[q0]? = some (.inl (0, 1536))) : AW SC l RX8 cX8_lead 7 (some .int) 1 ki (F_X8_lead_b38 fu x1 x2 x3 k6 x4 x5 q0 M) 38 [some (xr 7), some (xi x1), some (xi x2), some (xi x3), some (xi x4), some (xi x5), none] [xr q0] M := by
  unfold F_X8_lead_b38
  refine A_astore dX8_lead_38 (Nat.le_of_ble_eq_true rfl) rfl ?_
  refine A_iload dX8_lead_40 rfl ?_
  refine A_aload dX8_lead_42 rfl ?_
  refine A_iload dX8_lead_44 rfl ?_
  refine A_iload_n dX8_lead_46 rfl ?_
  refine A_iload_n dX8_lead_47 rfl ?_
  refine A_callSp (a_X8_pair (l := l) _ _ _ _ ) lc_X8_106 rfl (by decide) (Nat.le_of_ble_eq_true rfl) rfl dX8_lead_48 ?_
  refine A_callSp (a_X1_at (S := SC) (l := l) _ _ _ _ g0) lc_X8_43 rfl (by decide) (Nat.le_of_ble_eq_true rfl) rfl dX8_lead_51 ?_
  refine A_iadd dX8_lead_54 ?_
  refine A_istore dX8_lead_55 (Nat.le_of_ble_eq_true rfl) rfl ?_
  refine A_iinc dX8_lead_57 rfl oI_1 (Nat.le_of_ble_eq_true rfl) rfl ?_
  refine A_goto (tgt := 6) dX8_lead_60 (by decide) ?_
  exact (hk6 _ _ _).sub ⟨rfl, rfl, rfl, rfl, rfl, rfl, trivial⟩
def F_X8_lead_b6 (fu : Nat)  (x1 : Int32) (x2 : Int32) (x3 : Int32)  : Nat → Int32 → Int32 → xM → Option (Int32 × xM)
  | 0, _, _, _ => none
  | n + 1, x4, x5, M =>
    (if (M 5 1) ≤ x5 then
    some (x4, M)
    else
    (if (P_X1_has x3 x5 M) = 0 then
    F_X8_lead_b38 fu x1 x2 x3 (F_X8_lead_b6 fu x1 x2 x3 n) x4 x5 39 M
    else
    F_X8_lead_b38 fu x1 x2 x3 (F_X8_lead_b6 fu x1 x2 x3 n) x4 x5 40 M))
set_option maxRecDepth 100000 in
set_option maxHeartbeats 4000000 in
theorem a_X8_lead_b6 {l : Launch} (fu : Nat) (x1 : Int32) (x2 : Int32) (x3 : Int32)    : ∀ (n : Nat) (x4 : Int32) (x5 : Int32) (M : xM), AW SC l RX8 cX8_lead 7 (some .int) 1 ki (F_X8_lead_b6 fu x1 x2 x3 n x4 x5 M) 6 [some (xr 7), some (xi x1), some (xi x2), some (xi x3), some (xi x4), some (xi x5), none] [] M := by
  intro n
  induction n with
  | zero =>
    intro x4 x5 M
    exact AW.none
  | succ n ih =>
    intro x4 x5 M
    rw [F_X8_lead_b6]
    refine A_iload dX8_lead_6 rfl ?_
    refine A_aload_n dX8_lead_8 rfl ?_
    refine A_getr lf_X8_32 rfl rfl dX8_lead_9 ?_
    refine A_geti lf_X8_77 rfl rfl dX8_lead_12 ?_
    refine A_icmp_ge (tgt := 63) dX8_lead_15 (by decide) (fun _ => ?_) (fun _ => ?_)
    · refine A_iload dX8_lead_63 rfl ?_
      exact A_iret rfl dX8_lead_65
    · refine A_iload_n dX8_lead_18 rfl ?_
      refine A_iload dX8_lead_19 rfl ?_
      refine A_callSp (a_X1_has (S := SC) (l := l) _ _ _ ) lc_X8_100 rfl (by decide) (Nat.le_of_ble_eq_true rfl) rfl dX8_lead_21 ?_
      refine A_if_eq (tgt := 34) dX8_lead_24 (by decide) (fun _ => ?_) (fun _ => ?_)
      · refine A_aload_n dX8_lead_34 rfl ?_
        refine A_getr lf_X8_15 rfl rfl dX8_lead_35 ?_
        exact (a_X8_lead_b38 (l := l) fu x1 x2 x3 ih _ _ _ _ rfl).sub ⟨rfl, rfl, rfl, rfl, rfl, rfl, trivial⟩
      · refine A_aload_n dX8_lead_27 rfl ?_
        refine A_getr lf_X8_19 rfl rfl dX8_lead_28 ?_
        refine A_goto (tgt := 38) dX8_lead_31 (by decide) ?_
        exact (a_X8_lead_b38 (l := l) fu x1 x2 x3 ih _ _ _ _ rfl).sub ⟨rfl, rfl, rfl, rfl, rfl, rfl, trivial⟩
def F_X8_lead (fu : Nat)  (x1 : Int32) (x2 : Int32) (x3 : Int32)   (M : xM) : Option (Int32 × xM) :=
  F_X8_lead_b6 fu x1 x2 x3 fu (0 : Int32) (0 : Int32) M
set_option maxRecDepth 100000 in
set_option maxHeartbeats 4000000 in
theorem w_X8_lead {l : Launch} (fu : Nat) (x1 : Int32) (x2 : Int32) (x3 : Int32)     (M : xM)  : AW SC l RX8 cX8_lead 7 (some .int) 1 ki (F_X8_lead fu x1 x2 x3  M) 0 [some (xr 7), some (xi x1), some (xi x2), some (xi x3), none, none, none] [] M := by
  unfold F_X8_lead
  refine A_iconst (v := (0 : Int32)) dX8_lead_0 oI_0 ?_
  refine A_istore dX8_lead_1 (Nat.le_of_ble_eq_true rfl) rfl ?_
  refine A_iconst (v := (0 : Int32)) dX8_lead_3 oI_0 ?_
  refine A_istore dX8_lead_4 (Nat.le_of_ble_eq_true rfl) rfl ?_
  exact (a_X8_lead_b6 (l := l) fu x1 x2 x3  fu _ _ _).sub ⟨rfl, rfl, rfl, rfl, rfl, rfl, trivial⟩
theorem a_X8_lead {l : Launch} (fu : Nat)  (x1 : Int32) (x2 : Int32) (x3 : Int32) (M : xM)  : AM SC l yX8_lead cX8_lead 7 (some .int) 1 ki [xr 7, xi x1, xi x2, xi x3] M (F_X8_lead fu x1 x2 x3  M) :=
  AM.of (L0 := [some (xr 7), some (xi x1), some (xi x2), some (xi x3), none, none, none]) (w_X8_lead (l := l) fu x1 x2 x3  M ) (by decide +kernel) rfl (Nat.le_of_ble_eq_true rfl) ⟨rfl, rfl, rfl, rfl, trivial⟩
def F_X8_leastLead (fu : Nat)  (x1 : Int32) (x2 : Int32)   (M : xM) : Option (Int32 × xM) :=
  (F_X0_officeOf fu x1 M).bind fun q1 =>
  (if q1.1 = (-1 : Int32) then
  some ((-100000 : Int32), q1.2)
  else
  (if x1 = x2 then
  some ((-100000 : Int32), q1.2)
  else
  (F_X0_officeOf fu x2 q1.2).bind fun q2 =>
  (if q2.1 = q1.1 then
  (F_X8_weigh fu q1.1 (P_X1_bit x1 q2.2) q2.2).bind fun q3 =>
  (if q3.1 = 0 then
  some ((-100000 : Int32), q3.2)
  else
  (F_X8_lead fu x1 x2 (0 : Int32) q3.2).bind fun q4 =>
  some (q4.1, q4.2))
  else
  some ((-100000 : Int32), q2.2))))
set_option maxRecDepth 100000 in
set_option maxHeartbeats 4000000 in
theorem w_X8_leastLead {l : Launch} (fu : Nat) (x1 : Int32) (x2 : Int32)     (M : xM)  : AW SC l RX8 cX8_leastLead 4 (some .int) 7 ki (F_X8_leastLead fu x1 x2  M) 0 [some (xr 7), some (xi x1), some (xi x2), none] [] M := by
  unfold F_X8_leastLead
  refine A_aload_n dX8_leastLead_0 rfl ?_
  refine A_getr lf_X8_28 rfl rfl dX8_leastLead_1 ?_
  refine A_iload_n dX8_leastLead_4 rfl ?_
  refine A_callVi (a_X0_officeOf (l := l) fu _ _ ) lc_X8_109 rfl rfl (by decide) (Nat.le_of_ble_eq_true rfl) rfl dX8_leastLead_5 (fun q1 Mq1 hq1 => ?_)
  refine A_istore_n dX8_leastLead_8 (Nat.le_of_ble_eq_true rfl) rfl ?_
  refine A_iload_n dX8_leastLead_9 rfl ?_
  refine A_iconst (v := (-1 : Int32)) dX8_leastLead_10 oI_m1 ?_
  refine A_icmp_eq (tgt := 43) dX8_leastLead_11 (by decide) (fun _ => ?_) (fun _ => ?_)
  · refine A_ldc (v := (-100000 : Int32)) dX8_leastLead_43 lk_X8_118 ?_
    exact A_iret rfl dX8_leastLead_45
  · refine A_iload_n dX8_leastLead_14 rfl ?_
    refine A_iload_n dX8_leastLead_15 rfl ?_
    refine A_icmp_eq (tgt := 43) dX8_leastLead_16 (by decide) (fun _ => ?_) (fun _ => ?_)
    · refine A_ldc (v := (-100000 : Int32)) dX8_leastLead_43 lk_X8_118 ?_
      exact A_iret rfl dX8_leastLead_45
    · refine A_aload_n dX8_leastLead_19 rfl ?_
      refine A_getr lf_X8_28 rfl rfl dX8_leastLead_20 ?_
      refine A_iload_n dX8_leastLead_23 rfl ?_
      refine A_callVi (a_X0_officeOf (l := l) fu _ _ ) lc_X8_109 rfl rfl (by decide) (Nat.le_of_ble_eq_true rfl) rfl dX8_leastLead_24 (fun q2 Mq2 hq2 => ?_)
      refine A_iload_n dX8_leastLead_27 rfl ?_
      refine A_icmp_ne (tgt := 43) dX8_leastLead_28 (by decide) (fun _ => ?_) (fun _ => ?_)
      · refine A_aload_n dX8_leastLead_31 rfl ?_
        refine A_iload_n dX8_leastLead_32 rfl ?_
        refine A_iload_n dX8_leastLead_33 rfl ?_
        refine A_callSp (a_X1_bit (S := SC) (l := l) _ _ ) lc_X8_112 rfl (by decide) (Nat.le_of_ble_eq_true rfl) rfl dX8_leastLead_34 ?_
        refine A_callVi (a_X8_weigh (l := l) fu _ _ _ ) lc_X8_115 rfl rfl (by decide) (Nat.le_of_ble_eq_true rfl) rfl dX8_leastLead_37 (fun q3 Mq3 hq3 => ?_)
        refine A_if_ne (tgt := 46) dX8_leastLead_40 (by decide) (fun _ => ?_) (fun _ => ?_)
        · refine A_ldc (v := (-100000 : Int32)) dX8_leastLead_43 lk_X8_118 ?_
          exact A_iret rfl dX8_leastLead_45
        · refine A_aload_n dX8_leastLead_46 rfl ?_
          refine A_iload_n dX8_leastLead_47 rfl ?_
          refine A_iload_n dX8_leastLead_48 rfl ?_
          refine A_iconst (v := (0 : Int32)) dX8_leastLead_49 oI_0 ?_
          refine A_callVi (a_X8_lead (l := l) fu _ _ _ _ ) lc_X8_119 rfl rfl (by decide) (Nat.le_of_ble_eq_true rfl) rfl dX8_leastLead_50 (fun q4 Mq4 hq4 => ?_)
          exact A_iret rfl dX8_leastLead_53
      · refine A_ldc (v := (-100000 : Int32)) dX8_leastLead_43 lk_X8_118 ?_
        exact A_iret rfl dX8_leastLead_45
theorem a_X8_leastLead {l : Launch} (fu : Nat)  (x1 : Int32) (x2 : Int32) (M : xM)  : AM SC l yX8_leastLead cX8_leastLead 4 (some .int) 7 ki [xr 7, xi x1, xi x2] M (F_X8_leastLead fu x1 x2  M) :=
  AM.of (L0 := [some (xr 7), some (xi x1), some (xi x2), none]) (w_X8_leastLead (l := l) fu x1 x2  M ) (by decide +kernel) rfl (Nat.le_of_ble_eq_true rfl) ⟨rfl, rfl, rfl, trivial⟩
def F_X8_leadsAll_b63 (fu : Nat)  (x1 : Int32) (x2 : Int32) (x3 : Int32) (k3 : Int32 → xM → Option (Int32 × xM)) (x4 : Int32) (M : xM) : Option (Int32 × xM) :=
  k3 (x4 + (1 : Int32)) M
set_option maxRecDepth 100000 in
set_option maxHeartbeats 4000000 in
theorem a_X8_leadsAll_b63 {l : Launch} (fu : Nat) (x1 : Int32) (x2 : Int32) (x3 : Int32)  {k3 : Int32 → xM → Option (Int32 × xM)} (hk3 : ∀ (b0 : Int32) (M : xM), AW SC l RX8 cX8_leadsAll 6 (some .boolean) 2 ki (k3 b0 M) 3 [some (xr 7), some (xi x1), some (xi x2), some (xi x3), some (xi b0), none] [] M) (x4 : Int32) (M : xM)  : AW SC l RX8 cX8_leadsAll 6 (some .boolean) 2 ki (F_X8_leadsAll_b63 fu x1 x2 x3 k3 x4 M) 63 [some (xr 7), some (xi x1), some (xi x2), some (xi x3), some (xi x4), none] [] M := by
  unfold F_X8_leadsAll_b63
  refine A_iinc dX8_leadsAll_63 rfl oI_1 (Nat.le_of_ble_eq_true rfl) rfl ?_
  refine A_goto (tgt := 3) dX8_leadsAll_66 (by decide) ?_
  exact (hk3 _ _).sub ⟨rfl, rfl, rfl, rfl, rfl, trivial⟩
def F_X8_leadsAll_b42 (fu : Nat)  (x1 : Int32) (x2 : Int32) (x3 : Int32) (k3 : Int32 → xM → Option (Int32 × xM)) (x4 : Int32) (s0 : Int32) (M : xM) : Option (Int32 × xM) :=
  (if s0 = 0 then
  F_X8_leadsAll_b63 fu x1 x2 x3 k3 x4 M
  else
  (F_X8_lead fu x1 x4 x3 M).bind fun q1 =>
  (if (1 : Int32) ≤ q1.1 then
  F_X8_leadsAll_b63 fu x1 x2 x3 k3 x4 q1.2
  else
  some ((0 : Int32), q1.2)))
set_option maxRecDepth 100000 in
set_option maxHeartbeats 4000000 in
theorem a_X8_leadsAll_b42 {l : Launch} (fu : Nat) (x1 : Int32) (x2 : Int32) (x3 : Int32)  {k3 : Int32 → xM → Option (Int32 × xM)} (hk3 : ∀ (b0 : Int32) (M : xM), AW SC l RX8 cX8_leadsAll 6 (some .boolean) 2 ki (k3 b0 M) 3 [some (xr 7), some (xi x1), some (xi x2), some (xi x3), some (xi b0), none] [] M) (x4 : Int32) (s0 : Int32) (M : xM)  : AW SC l RX8 cX8_leadsAll 6 (some .boolean) 2 ki (F_X8_leadsAll_b42 fu x1 x2 x3 k3 x4 s0 M) 42 [some (xr 7), some (xi x1), some (xi x2), some (xi x3), some (xi x4), none] [xi s0] M := by
  unfold F_X8_leadsAll_b42
  refine A_istore dX8_leadsAll_42 (Nat.le_of_ble_eq_true rfl) rfl ?_
  refine A_iload dX8_leadsAll_44 rfl ?_
  refine A_if_eq (tgt := 63) dX8_leadsAll_46 (by decide) (fun _ => ?_) (fun _ => ?_)
  · exact (a_X8_leadsAll_b63 (l := l) fu x1 x2 x3 hk3 _ _ ).sub ⟨rfl, rfl, rfl, rfl, rfl, trivial⟩
  · refine A_aload_n dX8_leadsAll_49 rfl ?_
    refine A_iload_n dX8_leadsAll_50 rfl ?_
    refine A_iload dX8_leadsAll_51 rfl ?_
    refine A_iload_n dX8_leadsAll_53 rfl ?_
    refine A_callVi (a_X8_lead (l := l) fu _ _ _ _ ) lc_X8_119 rfl rfl (by decide) (Nat.le_of_ble_eq_true rfl) rfl dX8_leadsAll_54 (fun q1 Mq1 hq1 => ?_)
    refine A_iconst (v := (1 : Int32)) dX8_leadsAll_57 oI_1 ?_
    refine A_icmp_ge (tgt := 63) dX8_leadsAll_58 (by decide) (fun _ => ?_) (fun _ => ?_)
    · exact (a_X8_leadsAll_b63 (l := l) fu x1 x2 x3 hk3 _ _ ).sub ⟨rfl, rfl, rfl, rfl, rfl, trivial⟩
    · refine A_iconst (v := (0 : Int32)) dX8_leadsAll_61 oI_0 ?_
      exact A_zret' rfl (Or.inl rfl) dX8_leadsAll_62
def F_X8_leadsAll_b41 (fu : Nat)  (x1 : Int32) (x2 : Int32) (x3 : Int32) (k3 : Int32 → xM → Option (Int32 × xM)) (x4 : Int32) (M : xM) : Option (Int32 × xM) :=
  F_X8_leadsAll_b42 fu x1 x2 x3 k3 x4 (0 : Int32) M
set_option maxRecDepth 100000 in
set_option maxHeartbeats 4000000 in
theorem a_X8_leadsAll_b41 {l : Launch} (fu : Nat) (x1 : Int32) (x2 : Int32) (x3 : Int32)  {k3 : Int32 → xM → Option (Int32 × xM)} (hk3 : ∀ (b0 : Int32) (M : xM), AW SC l RX8 cX8_leadsAll 6 (some .boolean) 2 ki (k3 b0 M) 3 [some (xr 7), some (xi x1), some (xi x2), some (xi x3), some (xi b0), none] [] M) (x4 : Int32) (M : xM)  : AW SC l RX8 cX8_leadsAll 6 (some .boolean) 2 ki (F_X8_leadsAll_b41 fu x1 x2 x3 k3 x4 M) 41 [some (xr 7), some (xi x1), some (xi x2), some (xi x3), some (xi x4), none] [] M := by
  unfold F_X8_leadsAll_b41
  refine A_iconst (v := (0 : Int32)) dX8_leadsAll_41 oI_0 ?_
  exact (a_X8_leadsAll_b42 (l := l) fu x1 x2 x3 hk3 _ _ _ ).sub ⟨rfl, rfl, rfl, rfl, rfl, trivial⟩
def F_X8_leadsAll_b3 (fu : Nat)  (x1 : Int32) (x2 : Int32) (x3 : Int32)  : Nat → Int32 → xM → Option (Int32 × xM)
  | 0, _, _ => none
  | n + 1, x4, M =>
    (if (M 1 0) ≤ x4 then
    some ((1 : Int32), M)
    else
    (if x4 = x1 then
    F_X8_leadsAll_b41 fu x1 x2 x3 (F_X8_leadsAll_b3 fu x1 x2 x3 n) x4 M
    else
    (if (P_X1_has (P_X0_leversOf x2 M) x4 M) = 0 then
    F_X8_leadsAll_b41 fu x1 x2 x3 (F_X8_leadsAll_b3 fu x1 x2 x3 n) x4 M
    else
    F_X8_leadsAll_b42 fu x1 x2 x3 (F_X8_leadsAll_b3 fu x1 x2 x3 n) x4 (1 : Int32) M)))
set_option maxRecDepth 100000 in
set_option maxHeartbeats 4000000 in
theorem a_X8_leadsAll_b3 {l : Launch} (fu : Nat) (x1 : Int32) (x2 : Int32) (x3 : Int32)    : ∀ (n : Nat) (x4 : Int32) (M : xM), AW SC l RX8 cX8_leadsAll 6 (some .boolean) 2 ki (F_X8_leadsAll_b3 fu x1 x2 x3 n x4 M) 3 [some (xr 7), some (xi x1), some (xi x2), some (xi x3), some (xi x4), none] [] M := by
  intro n
  induction n with
  | zero =>
    intro x4 M
    exact AW.none
  | succ n ih =>
    intro x4 M
    rw [F_X8_leadsAll_b3]
    refine A_iload dX8_leadsAll_3 rfl ?_
    refine A_aload_n dX8_leadsAll_5 rfl ?_
    refine A_getr lf_X8_28 rfl rfl dX8_leadsAll_6 ?_
    refine A_geti lf_X8_97 rfl rfl dX8_leadsAll_9 ?_
    refine A_icmp_ge (tgt := 69) dX8_leadsAll_12 (by decide) (fun _ => ?_) (fun _ => ?_)
    · refine A_iconst (v := (1 : Int32)) dX8_leadsAll_69 oI_1 ?_
      exact A_zret' rfl (Or.inr rfl) dX8_leadsAll_70
    · refine A_iload dX8_leadsAll_15 rfl ?_
      refine A_iload_n dX8_leadsAll_17 rfl ?_
      refine A_icmp_eq (tgt := 41) dX8_leadsAll_18 (by decide) (fun _ => ?_) (fun _ => ?_)
      · exact (a_X8_leadsAll_b41 (l := l) fu x1 x2 x3 ih _ _ ).sub ⟨rfl, rfl, rfl, rfl, rfl, trivial⟩
      · refine A_aload_n dX8_leadsAll_21 rfl ?_
        refine A_getr lf_X8_28 rfl rfl dX8_leadsAll_22 ?_
        refine A_iload_n dX8_leadsAll_25 rfl ?_
        refine A_callVp (a_X0_leversOf (l := l) _ _ ) lc_X8_103 rfl rfl (by decide) (Nat.le_of_ble_eq_true rfl) rfl dX8_leadsAll_26 ?_
        refine A_iload dX8_leadsAll_29 rfl ?_
        refine A_callSp (a_X1_has (S := SC) (l := l) _ _ _ ) lc_X8_100 rfl (by decide) (Nat.le_of_ble_eq_true rfl) rfl dX8_leadsAll_31 ?_
        refine A_if_eq (tgt := 41) dX8_leadsAll_34 (by decide) (fun _ => ?_) (fun _ => ?_)
        · exact (a_X8_leadsAll_b41 (l := l) fu x1 x2 x3 ih _ _ ).sub ⟨rfl, rfl, rfl, rfl, rfl, trivial⟩
        · refine A_iconst (v := (1 : Int32)) dX8_leadsAll_37 oI_1 ?_
          refine A_goto (tgt := 42) dX8_leadsAll_38 (by decide) ?_
          exact (a_X8_leadsAll_b42 (l := l) fu x1 x2 x3 ih _ _ _ ).sub ⟨rfl, rfl, rfl, rfl, rfl, trivial⟩
def F_X8_leadsAll (fu : Nat)  (x1 : Int32) (x2 : Int32) (x3 : Int32)   (M : xM) : Option (Int32 × xM) :=
  F_X8_leadsAll_b3 fu x1 x2 x3 fu (0 : Int32) M
set_option maxRecDepth 100000 in
set_option maxHeartbeats 4000000 in
theorem w_X8_leadsAll {l : Launch} (fu : Nat) (x1 : Int32) (x2 : Int32) (x3 : Int32)     (M : xM)  : AW SC l RX8 cX8_leadsAll 6 (some .boolean) 2 ki (F_X8_leadsAll fu x1 x2 x3  M) 0 [some (xr 7), some (xi x1), some (xi x2), some (xi x3), none, none] [] M := by
  unfold F_X8_leadsAll
  refine A_iconst (v := (0 : Int32)) dX8_leadsAll_0 oI_0 ?_
  refine A_istore dX8_leadsAll_1 (Nat.le_of_ble_eq_true rfl) rfl ?_
  exact (a_X8_leadsAll_b3 (l := l) fu x1 x2 x3  fu _ _).sub ⟨rfl, rfl, rfl, rfl, rfl, trivial⟩
theorem a_X8_leadsAll {l : Launch} (fu : Nat)  (x1 : Int32) (x2 : Int32) (x3 : Int32) (M : xM)  : AM SC l yX8_leadsAll cX8_leadsAll 6 (some .boolean) 2 ki [xr 7, xi x1, xi x2, xi x3] M (F_X8_leadsAll fu x1 x2 x3  M) :=
  AM.of (L0 := [some (xr 7), some (xi x1), some (xi x2), some (xi x3), none, none]) (w_X8_leadsAll (l := l) fu x1 x2 x3  M ) (by decide +kernel) rfl (Nat.le_of_ble_eq_true rfl) ⟨rfl, rfl, rfl, rfl, trivial⟩
def F_X8_winner_b58 (fu : Nat)  (x1 : Int32) (k20 : Int32 → xM → Option (Int32 × xM)) (x2 : Int32) (M : xM) : Option (Int32 × xM) :=
  k20 (x2 + (1 : Int32)) M
set_option maxRecDepth 100000 in
set_option maxHeartbeats 4000000 in
theorem a_X8_winner_b58 {l : Launch} (fu : Nat) (x1 : Int32)  {k20 : Int32 → xM → Option (Int32 × xM)} (hk20 : ∀ (b0 : Int32) (M : xM), AW SC l RX8 cX8_winner 3 (some .int) 7 ki (k20 b0 M) 20 [some (xr 7), some (xi x1), some (xi b0)] [] M) (x2 : Int32) (M : xM)  : AW SC l RX8 cX8_winner 3 (some .int) 7 ki (F_X8_winner_b58 fu x1 k20 x2 M) 58 [some (xr 7), some (xi x1), some (xi x2)] [] M := by
  unfold F_X8_winner_b58
  refine A_iinc dX8_winner_58 rfl oI_1 (Nat.le_of_ble_eq_true rfl) rfl ?_
  refine A_goto (tgt := 20) dX8_winner_61 (by decide) ?_
  exact (hk20 _ _).sub ⟨rfl, rfl, rfl, trivial⟩
def F_X8_winner_b20 (fu : Nat)  (x1 : Int32)  : Nat → Int32 → xM → Option (Int32 × xM)
  | 0, _, _ => none
  | n + 1, x2, M =>
    (if (M 1 0) ≤ x2 then
    some ((-1 : Int32), M)
    else
    (if (P_X1_has (P_X0_leversOf x1 M) x2 M) = 0 then
    F_X8_winner_b58 fu x1 (F_X8_winner_b20 fu x1 n) x2 M
    else
    (F_X8_leadsAll fu x2 x1 (0 : Int32) M).bind fun q1 =>
    (if q1.1 = 0 then
    F_X8_winner_b58 fu x1 (F_X8_winner_b20 fu x1 n) x2 q1.2
    else
    some (x2, q1.2))))
set_option maxRecDepth 100000 in
set_option maxHeartbeats 4000000 in
theorem a_X8_winner_b20 {l : Launch} (fu : Nat) (x1 : Int32)    : ∀ (n : Nat) (x2 : Int32) (M : xM), AW SC l RX8 cX8_winner 3 (some .int) 7 ki (F_X8_winner_b20 fu x1 n x2 M) 20 [some (xr 7), some (xi x1), some (xi x2)] [] M := by
  intro n
  induction n with
  | zero =>
    intro x2 M
    exact AW.none
  | succ n ih =>
    intro x2 M
    rw [F_X8_winner_b20]
    refine A_iload_n dX8_winner_20 rfl ?_
    refine A_aload_n dX8_winner_21 rfl ?_
    refine A_getr lf_X8_28 rfl rfl dX8_winner_22 ?_
    refine A_geti lf_X8_97 rfl rfl dX8_winner_25 ?_
    refine A_icmp_ge (tgt := 64) dX8_winner_28 (by decide) (fun _ => ?_) (fun _ => ?_)
    · refine A_iconst (v := (-1 : Int32)) dX8_winner_64 oI_m1 ?_
      exact A_iret rfl dX8_winner_65
    · refine A_aload_n dX8_winner_31 rfl ?_
      refine A_getr lf_X8_28 rfl rfl dX8_winner_32 ?_
      refine A_iload_n dX8_winner_35 rfl ?_
      refine A_callVp (a_X0_leversOf (l := l) _ _ ) lc_X8_103 rfl rfl (by decide) (Nat.le_of_ble_eq_true rfl) rfl dX8_winner_36 ?_
      refine A_iload_n dX8_winner_39 rfl ?_
      refine A_callSp (a_X1_has (S := SC) (l := l) _ _ _ ) lc_X8_100 rfl (by decide) (Nat.le_of_ble_eq_true rfl) rfl dX8_winner_40 ?_
      refine A_if_eq (tgt := 58) dX8_winner_43 (by decide) (fun _ => ?_) (fun _ => ?_)
      · exact (a_X8_winner_b58 (l := l) fu x1 ih _ _ ).sub ⟨rfl, rfl, rfl, trivial⟩
      · refine A_aload_n dX8_winner_46 rfl ?_
        refine A_iload_n dX8_winner_47 rfl ?_
        refine A_iload_n dX8_winner_48 rfl ?_
        refine A_iconst (v := (0 : Int32)) dX8_winner_49 oI_0 ?_
        refine A_callVi (a_X8_leadsAll (l := l) fu _ _ _ _ ) lc_X8_122 rfl rfl (by decide) (Nat.le_of_ble_eq_true rfl) rfl dX8_winner_50 (fun q1 Mq1 hq1 => ?_)
        refine A_if_eq (tgt := 58) dX8_winner_53 (by decide) (fun _ => ?_) (fun _ => ?_)
        · exact (a_X8_winner_b58 (l := l) fu x1 ih _ _ ).sub ⟨rfl, rfl, rfl, trivial⟩
        · refine A_iload_n dX8_winner_56 rfl ?_
          exact A_iret rfl dX8_winner_57
def F_X8_winner (fu : Nat)  (x1 : Int32)   (M : xM) : Option (Int32 × xM) :=
  (F_X8_weigh fu x1 (P_X0_leversOf x1 M) M).bind fun q1 =>
  (if q1.1 = 0 then
  some ((-1 : Int32), q1.2)
  else
  F_X8_winner_b20 fu x1 fu (0 : Int32) q1.2)
set_option maxRecDepth 100000 in
set_option maxHeartbeats 4000000 in
theorem w_X8_winner {l : Launch} (fu : Nat) (x1 : Int32)     (M : xM)  : AW SC l RX8 cX8_winner 3 (some .int) 7 ki (F_X8_winner fu x1  M) 0 [some (xr 7), some (xi x1), none] [] M := by
  unfold F_X8_winner
  refine A_aload_n dX8_winner_0 rfl ?_
  refine A_iload_n dX8_winner_1 rfl ?_
  refine A_aload_n dX8_winner_2 rfl ?_
  refine A_getr lf_X8_28 rfl rfl dX8_winner_3 ?_
  refine A_iload_n dX8_winner_6 rfl ?_
  refine A_callVp (a_X0_leversOf (l := l) _ _ ) lc_X8_103 rfl rfl (by decide) (Nat.le_of_ble_eq_true rfl) rfl dX8_winner_7 ?_
  refine A_callVi (a_X8_weigh (l := l) fu _ _ _ ) lc_X8_115 rfl rfl (by decide) (Nat.le_of_ble_eq_true rfl) rfl dX8_winner_10 (fun q1 Mq1 hq1 => ?_)
  refine A_if_ne (tgt := 18) dX8_winner_13 (by decide) (fun _ => ?_) (fun _ => ?_)
  · refine A_iconst (v := (-1 : Int32)) dX8_winner_16 oI_m1 ?_
    exact A_iret rfl dX8_winner_17
  · refine A_iconst (v := (0 : Int32)) dX8_winner_18 oI_0 ?_
    refine A_istore_n dX8_winner_19 (Nat.le_of_ble_eq_true rfl) rfl ?_
    exact (a_X8_winner_b20 (l := l) fu x1  fu _ _).sub ⟨rfl, rfl, rfl, trivial⟩
theorem a_X8_winner {l : Launch} (fu : Nat)  (x1 : Int32) (M : xM)  : AM SC l yX8_winner cX8_winner 3 (some .int) 7 ki [xr 7, xi x1] M (F_X8_winner fu x1  M) :=
  AM.of (L0 := [some (xr 7), some (xi x1), none]) (w_X8_winner (l := l) fu x1  M ) (by decide +kernel) rfl (Nat.le_of_ble_eq_true rfl) ⟨rfl, rfl, trivial⟩
def F_X8_canOpen_b38 (fu : Nat)  (x1 : Int32) (k2 : Int32 → xM → Option (Int32 × xM)) (x2 : Int32) (M : xM) : Option (Int32 × xM) :=
  k2 (x2 + (1 : Int32)) M
set_option maxRecDepth 100000 in
set_option maxHeartbeats 4000000 in
theorem a_X8_canOpen_b38 {l : Launch} (fu : Nat) (x1 : Int32)  {k2 : Int32 → xM → Option (Int32 × xM)} (hk2 : ∀ (b0 : Int32) (M : xM), AW SC l RX8 cX8_canOpen 3 (some .boolean) 1 ki (k2 b0 M) 2 [some (xr 7), some (xi x1), some (xi b0)] [] M) (x2 : Int32) (M : xM)  : AW SC l RX8 cX8_canOpen 3 (some .boolean) 1 ki (F_X8_canOpen_b38 fu x1 k2 x2 M) 38 [some (xr 7), some (xi x1), some (xi x2)] [] M := by
  unfold F_X8_canOpen_b38
  refine A_iinc dX8_canOpen_38 rfl oI_1 (Nat.le_of_ble_eq_true rfl) rfl ?_
  refine A_goto (tgt := 2) dX8_canOpen_41 (by decide) ?_
  exact (hk2 _ _).sub ⟨rfl, rfl, rfl, trivial⟩
def F_X8_canOpen_b2 (fu : Nat)  (x1 : Int32)  : Nat → Int32 → xM → Option (Int32 × xM)
  | 0, _, _ => none
  | n + 1, x2, M =>
    (if (M 5 1) ≤ x2 then
    some ((1 : Int32), M)
    else
    (if (P_X1_has x1 x2 M) = 0 then
    F_X8_canOpen_b38 fu x1 (F_X8_canOpen_b2 fu x1 n) x2 M
    else
    (if (P_X1_at 24 6 x2 M) = (-1 : Int32) then
    F_X8_canOpen_b38 fu x1 (F_X8_canOpen_b2 fu x1 n) x2 M
    else
    some ((0 : Int32), M))))
set_option maxRecDepth 100000 in
set_option maxHeartbeats 4000000 in
theorem a_X8_canOpen_b2 {l : Launch} (fu : Nat) (x1 : Int32)    : ∀ (n : Nat) (x2 : Int32) (M : xM), AW SC l RX8 cX8_canOpen 3 (some .boolean) 1 ki (F_X8_canOpen_b2 fu x1 n x2 M) 2 [some (xr 7), some (xi x1), some (xi x2)] [] M := by
  intro n
  induction n with
  | zero =>
    intro x2 M
    exact AW.none
  | succ n ih =>
    intro x2 M
    rw [F_X8_canOpen_b2]
    refine A_iload_n dX8_canOpen_2 rfl ?_
    refine A_aload_n dX8_canOpen_3 rfl ?_
    refine A_getr lf_X8_32 rfl rfl dX8_canOpen_4 ?_
    refine A_geti lf_X8_77 rfl rfl dX8_canOpen_7 ?_
    refine A_icmp_ge (tgt := 44) dX8_canOpen_10 (by decide) (fun _ => ?_) (fun _ => ?_)
    · refine A_iconst (v := (1 : Int32)) dX8_canOpen_44 oI_1 ?_
      exact A_zret' rfl (Or.inr rfl) dX8_canOpen_45
    · refine A_iload_n dX8_canOpen_13 rfl ?_
      refine A_iload_n dX8_canOpen_14 rfl ?_
      refine A_callSp (a_X1_has (S := SC) (l := l) _ _ _ ) lc_X8_100 rfl (by decide) (Nat.le_of_ble_eq_true rfl) rfl dX8_canOpen_15 ?_
      refine A_if_eq (tgt := 38) dX8_canOpen_18 (by decide) (fun _ => ?_) (fun _ => ?_)
      · exact (a_X8_canOpen_b38 (l := l) fu x1 ih _ _ ).sub ⟨rfl, rfl, rfl, trivial⟩
      · refine A_aload_n dX8_canOpen_21 rfl ?_
        refine A_getr lf_X8_32 rfl rfl dX8_canOpen_22 ?_
        refine A_getr lf_X8_40 rfl rfl dX8_canOpen_25 ?_
        refine A_iload_n dX8_canOpen_28 rfl ?_
        refine A_callSp (a_X1_at (S := SC) (l := l) _ _ _ _ rfl) lc_X8_43 rfl (by decide) (Nat.le_of_ble_eq_true rfl) rfl dX8_canOpen_29 ?_
        refine A_iconst (v := (-1 : Int32)) dX8_canOpen_32 oI_m1 ?_
        refine A_icmp_eq (tgt := 38) dX8_canOpen_33 (by decide) (fun _ => ?_) (fun _ => ?_)
        · exact (a_X8_canOpen_b38 (l := l) fu x1 ih _ _ ).sub ⟨rfl, rfl, rfl, trivial⟩
        · refine A_iconst (v := (0 : Int32)) dX8_canOpen_36 oI_0 ?_
          exact A_zret' rfl (Or.inl rfl) dX8_canOpen_37
def F_X8_canOpen (fu : Nat)  (x1 : Int32)   (M : xM) : Option (Int32 × xM) :=
  F_X8_canOpen_b2 fu x1 fu (0 : Int32) M
set_option maxRecDepth 100000 in
set_option maxHeartbeats 4000000 in
theorem w_X8_canOpen {l : Launch} (fu : Nat) (x1 : Int32)     (M : xM)  : AW SC l RX8 cX8_canOpen 3 (some .boolean) 1 ki (F_X8_canOpen fu x1  M) 0 [some (xr 7), some (xi x1), none] [] M := by
  unfold F_X8_canOpen
  refine A_iconst (v := (0 : Int32)) dX8_canOpen_0 oI_0 ?_
  refine A_istore_n dX8_canOpen_1 (Nat.le_of_ble_eq_true rfl) rfl ?_
  exact (a_X8_canOpen_b2 (l := l) fu x1  fu _ _).sub ⟨rfl, rfl, rfl, trivial⟩
theorem a_X8_canOpen {l : Launch} (fu : Nat)  (x1 : Int32) (M : xM)  : AM SC l yX8_canOpen cX8_canOpen 3 (some .boolean) 1 ki [xr 7, xi x1] M (F_X8_canOpen fu x1  M) :=
  AM.of (L0 := [some (xr 7), some (xi x1), none]) (w_X8_canOpen (l := l) fu x1  M ) (by decide +kernel) rfl (Nat.le_of_ble_eq_true rfl) ⟨rfl, rfl, trivial⟩
def F_X8_costOf_b37 (fu : Nat)  (x1 : Int32) (k4 : Int32 → Int32 → xM → Option (Int32 × xM)) (x2 : Int32) (x3 : Int32) (M : xM) : Option (Int32 × xM) :=
  k4 x2 (x3 + (1 : Int32)) M
set_option maxRecDepth 100000 in
set_option maxHeartbeats 4000000 in
theorem a_X8_costOf_b37 {l : Launch} (fu : Nat) (x1 : Int32)  {k4 : Int32 → Int32 → xM → Option (Int32 × xM)} (hk4 : ∀ (b0 : Int32) (b1 : Int32) (M : xM), AW SC l RX8 cX8_costOf 4 (some .int) 1 ki (k4 b0 b1 M) 4 [some (xr 7), some (xi x1), some (xi b0), some (xi b1)] [] M) (x2 : Int32) (x3 : Int32) (M : xM)  : AW SC l RX8 cX8_costOf 4 (some .int) 1 ki (F_X8_costOf_b37 fu x1 k4 x2 x3 M) 37 [some (xr 7), some (xi x1), some (xi x2), some (xi x3)] [] M := by
  unfold F_X8_costOf_b37
  refine A_iinc dX8_costOf_37 rfl oI_1 (Nat.le_of_ble_eq_true rfl) rfl ?_
  refine A_goto (tgt := 4) dX8_costOf_40 (by decide) ?_
  exact (hk4 _ _ _).sub ⟨rfl, rfl, rfl, rfl, trivial⟩
def F_X8_costOf_b4 (fu : Nat)  (x1 : Int32)  : Nat → Int32 → Int32 → xM → Option (Int32 × xM)
  | 0, _, _, _ => none
  | n + 1, x2, x3, M =>
    (if (M 5 1) ≤ x3 then
    some (x2, M)
    else
    (if (P_X1_has x1 x3 M) = 0 then
    F_X8_costOf_b37 fu x1 (F_X8_costOf_b4 fu x1 n) x2 x3 M
    else
    F_X8_costOf_b37 fu x1 (F_X8_costOf_b4 fu x1 n) (x2 + (P_X1_at 25 6 x3 M)) x3 M))
set_option maxRecDepth 100000 in
set_option maxHeartbeats 4000000 in
theorem a_X8_costOf_b4 {l : Launch} (fu : Nat) (x1 : Int32)    : ∀ (n : Nat) (x2 : Int32) (x3 : Int32) (M : xM), AW SC l RX8 cX8_costOf 4 (some .int) 1 ki (F_X8_costOf_b4 fu x1 n x2 x3 M) 4 [some (xr 7), some (xi x1), some (xi x2), some (xi x3)] [] M := by
  intro n
  induction n with
  | zero =>
    intro x2 x3 M
    exact AW.none
  | succ n ih =>
    intro x2 x3 M
    rw [F_X8_costOf_b4]
    refine A_iload_n dX8_costOf_4 rfl ?_
    refine A_aload_n dX8_costOf_5 rfl ?_
    refine A_getr lf_X8_32 rfl rfl dX8_costOf_6 ?_
    refine A_geti lf_X8_77 rfl rfl dX8_costOf_9 ?_
    refine A_icmp_ge (tgt := 43) dX8_costOf_12 (by decide) (fun _ => ?_) (fun _ => ?_)
    · refine A_iload_n dX8_costOf_43 rfl ?_
      exact A_iret rfl dX8_costOf_44
    · refine A_iload_n dX8_costOf_15 rfl ?_
      refine A_iload_n dX8_costOf_16 rfl ?_
      refine A_callSp (a_X1_has (S := SC) (l := l) _ _ _ ) lc_X8_100 rfl (by decide) (Nat.le_of_ble_eq_true rfl) rfl dX8_costOf_17 ?_
      refine A_if_eq (tgt := 37) dX8_costOf_20 (by decide) (fun _ => ?_) (fun _ => ?_)
      · exact (a_X8_costOf_b37 (l := l) fu x1 ih _ _ _ ).sub ⟨rfl, rfl, rfl, rfl, trivial⟩
      · refine A_iload_n dX8_costOf_23 rfl ?_
        refine A_aload_n dX8_costOf_24 rfl ?_
        refine A_getr lf_X8_32 rfl rfl dX8_costOf_25 ?_
        refine A_getr lf_X8_146 rfl rfl dX8_costOf_28 ?_
        refine A_iload_n dX8_costOf_31 rfl ?_
        refine A_callSp (a_X1_at (S := SC) (l := l) _ _ _ _ rfl) lc_X8_43 rfl (by decide) (Nat.le_of_ble_eq_true rfl) rfl dX8_costOf_32 ?_
        refine A_iadd dX8_costOf_35 ?_
        refine A_istore_n dX8_costOf_36 (Nat.le_of_ble_eq_true rfl) rfl ?_
        exact (a_X8_costOf_b37 (l := l) fu x1 ih _ _ _ ).sub ⟨rfl, rfl, rfl, rfl, trivial⟩
def F_X8_costOf (fu : Nat)  (x1 : Int32)   (M : xM) : Option (Int32 × xM) :=
  F_X8_costOf_b4 fu x1 fu (0 : Int32) (0 : Int32) M
set_option maxRecDepth 100000 in
set_option maxHeartbeats 4000000 in
theorem w_X8_costOf {l : Launch} (fu : Nat) (x1 : Int32)     (M : xM)  : AW SC l RX8 cX8_costOf 4 (some .int) 1 ki (F_X8_costOf fu x1  M) 0 [some (xr 7), some (xi x1), none, none] [] M := by
  unfold F_X8_costOf
  refine A_iconst (v := (0 : Int32)) dX8_costOf_0 oI_0 ?_
  refine A_istore_n dX8_costOf_1 (Nat.le_of_ble_eq_true rfl) rfl ?_
  refine A_iconst (v := (0 : Int32)) dX8_costOf_2 oI_0 ?_
  refine A_istore_n dX8_costOf_3 (Nat.le_of_ble_eq_true rfl) rfl ?_
  exact (a_X8_costOf_b4 (l := l) fu x1  fu _ _ _).sub ⟨rfl, rfl, rfl, rfl, trivial⟩
theorem a_X8_costOf {l : Launch} (fu : Nat)  (x1 : Int32) (M : xM)  : AM SC l yX8_costOf cX8_costOf 4 (some .int) 1 ki [xr 7, xi x1] M (F_X8_costOf fu x1  M) :=
  AM.of (L0 := [some (xr 7), some (xi x1), none, none]) (w_X8_costOf (l := l) fu x1  M ) (by decide +kernel) rfl (Nat.le_of_ble_eq_true rfl) ⟨rfl, rfl, trivial⟩
def F_X8_isCheaper_b28 (fu : Nat)  (x1 : Int32) (x2 : Int32)   (M : xM) : Option (Int32 × xM) :=
  some ((1 : Int32), M)
set_option maxRecDepth 100000 in
set_option maxHeartbeats 4000000 in
theorem a_X8_isCheaper_b28 {l : Launch} (fu : Nat) (x1 : Int32) (x2 : Int32)     (M : xM)  : AW SC l RX8 cX8_isCheaper 4 (some .boolean) 2 ki (F_X8_isCheaper_b28 fu x1 x2  M) 28 [none, none, none, none] [] M := by
  unfold F_X8_isCheaper_b28
  refine A_iconst (v := (1 : Int32)) dX8_isCheaper_28 oI_1 ?_
  refine A_goto (tgt := 33) dX8_isCheaper_29 (by decide) ?_
  exact A_zret' rfl (Or.inr rfl) dX8_isCheaper_33
def F_X8_isCheaper (fu : Nat)  (x1 : Int32) (x2 : Int32)   (M : xM) : Option (Int32 × xM) :=
  (F_X8_costOf fu x2 M).bind fun q1 =>
  (F_X8_costOf fu x1 q1.2).bind fun q2 =>
  (if 0 < (q1.1 - q2.1) then
  F_X8_isCheaper_b28 fu x1 x2  q2.2
  else
  (if (q1.1 - q2.1) = 0 then
  (if (P_X1_better x1 x2 q2.2) = 0 then
  some ((0 : Int32), q2.2)
  else
  F_X8_isCheaper_b28 fu x1 x2  q2.2)
  else
  some ((0 : Int32), q2.2)))
set_option maxRecDepth 100000 in
set_option maxHeartbeats 4000000 in
theorem w_X8_isCheaper {l : Launch} (fu : Nat) (x1 : Int32) (x2 : Int32)     (M : xM)  : AW SC l RX8 cX8_isCheaper 4 (some .boolean) 2 ki (F_X8_isCheaper fu x1 x2  M) 0 [some (xr 7), some (xi x1), some (xi x2), none] [] M := by
  unfold F_X8_isCheaper
  refine A_aload_n dX8_isCheaper_0 rfl ?_
  refine A_iload_n dX8_isCheaper_1 rfl ?_
  refine A_callVi (a_X8_costOf (l := l) fu _ _ ) lc_X8_140 rfl rfl (by decide) (Nat.le_of_ble_eq_true rfl) rfl dX8_isCheaper_2 (fun q1 Mq1 hq1 => ?_)
  refine A_aload_n dX8_isCheaper_5 rfl ?_
  refine A_iload_n dX8_isCheaper_6 rfl ?_
  refine A_callVi (a_X8_costOf (l := l) fu _ _ ) lc_X8_140 rfl rfl (by decide) (Nat.le_of_ble_eq_true rfl) rfl dX8_isCheaper_7 (fun q2 Mq2 hq2 => ?_)
  refine A_isub dX8_isCheaper_10 ?_
  refine A_istore_n dX8_isCheaper_11 (Nat.le_of_ble_eq_true rfl) rfl ?_
  refine A_iload_n dX8_isCheaper_12 rfl ?_
  refine A_if_gt (tgt := 28) dX8_isCheaper_13 (by decide) (fun _ => ?_) (fun _ => ?_)
  · exact (a_X8_isCheaper_b28 (l := l) fu x1 x2   _ ).sub trivial
  · refine A_iload_n dX8_isCheaper_16 rfl ?_
    refine A_if_ne (tgt := 32) dX8_isCheaper_17 (by decide) (fun _ => ?_) (fun _ => ?_)
    · refine A_iload_n dX8_isCheaper_20 rfl ?_
      refine A_iload_n dX8_isCheaper_21 rfl ?_
      refine A_callSp (a_X1_better (S := SC) (l := l) _ _ _ ) lc_X8_143 rfl (by decide) (Nat.le_of_ble_eq_true rfl) rfl dX8_isCheaper_22 ?_
      refine A_if_eq (tgt := 32) dX8_isCheaper_25 (by decide) (fun _ => ?_) (fun _ => ?_)
      · refine A_iconst (v := (0 : Int32)) dX8_isCheaper_32 oI_0 ?_
        exact A_zret' rfl (Or.inl rfl) dX8_isCheaper_33
      · exact (a_X8_isCheaper_b28 (l := l) fu x1 x2   _ ).sub trivial
    · refine A_iconst (v := (0 : Int32)) dX8_isCheaper_32 oI_0 ?_
      exact A_zret' rfl (Or.inl rfl) dX8_isCheaper_33
theorem a_X8_isCheaper {l : Launch} (fu : Nat)  (x1 : Int32) (x2 : Int32) (M : xM)  : AM SC l yX8_isCheaper cX8_isCheaper 4 (some .boolean) 2 ki [xr 7, xi x1, xi x2] M (F_X8_isCheaper fu x1 x2  M) :=
  AM.of (L0 := [some (xr 7), some (xi x1), some (xi x2), none]) (w_X8_isCheaper (l := l) fu x1 x2  M ) (by decide +kernel) rfl (Nat.le_of_ble_eq_true rfl) ⟨rfl, rfl, rfl, trivial⟩
def F_X8_cheapestOpening_b90 (fu : Nat)  (x1 : Int32) (k37 : Int32 → Int32 → Int32 → xM → Option (Int32 × xM)) (x2 : Int32) (x3 : Int32) (x4 : Int32) (M : xM) : Option (Int32 × xM) :=
  k37 x2 x3 (x4 + (1 : Int32)) M
set_option maxRecDepth 100000 in
set_option maxHeartbeats 4000000 in
theorem a_X8_cheapestOpening_b90 {l : Launch} (fu : Nat) (x1 : Int32)  {k37 : Int32 → Int32 → Int32 → xM → Option (Int32 × xM)} (hk37 : ∀ (b0 : Int32) (b1 : Int32) (b2 : Int32) (M : xM), AW SC l RX8 cX8_cheapestOpening 5 (some .int) 7 ki (k37 b0 b1 b2 M) 37 [some (xr 7), some (xi x1), some (xi b0), some (xi b1), some (xi b2)] [] M) (x2 : Int32) (x3 : Int32) (x4 : Int32) (M : xM)  : AW SC l RX8 cX8_cheapestOpening 5 (some .int) 7 ki (F_X8_cheapestOpening_b90 fu x1 k37 x2 x3 x4 M) 90 [some (xr 7), some (xi x1), some (xi x2), some (xi x3), some (xi x4)] [] M := by
  unfold F_X8_cheapestOpening_b90
  refine A_iinc dX8_cheapestOpening_90 rfl oI_1 (Nat.le_of_ble_eq_true rfl) rfl ?_
  refine A_goto (tgt := 37) dX8_cheapestOpening_93 (by decide) ?_
  exact (hk37 _ _ _ _).sub ⟨rfl, rfl, rfl, rfl, rfl, trivial⟩
def F_X8_cheapestOpening_b76 (fu : Nat)  (x1 : Int32) (k37 : Int32 → Int32 → Int32 → xM → Option (Int32 × xM)) (x2 : Int32) (x3 : Int32) (x4 : Int32) (M : xM) : Option (Int32 × xM) :=
  (F_X8_leadsAll fu x1 x2 x4 M).bind fun q1 =>
  (if q1.1 = 0 then
  F_X8_cheapestOpening_b90 fu x1 k37 x2 x3 x4 q1.2
  else
  F_X8_cheapestOpening_b90 fu x1 k37 x2 x4 x4 q1.2)
set_option maxRecDepth 100000 in
set_option maxHeartbeats 4000000 in
theorem a_X8_cheapestOpening_b76 {l : Launch} (fu : Nat) (x1 : Int32)  {k37 : Int32 → Int32 → Int32 → xM → Option (Int32 × xM)} (hk37 : ∀ (b0 : Int32) (b1 : Int32) (b2 : Int32) (M : xM), AW SC l RX8 cX8_cheapestOpening 5 (some .int) 7 ki (k37 b0 b1 b2 M) 37 [some (xr 7), some (xi x1), some (xi b0), some (xi b1), some (xi b2)] [] M) (x2 : Int32) (x3 : Int32) (x4 : Int32) (M : xM)  : AW SC l RX8 cX8_cheapestOpening 5 (some .int) 7 ki (F_X8_cheapestOpening_b76 fu x1 k37 x2 x3 x4 M) 76 [some (xr 7), some (xi x1), some (xi x2), some (xi x3), some (xi x4)] [] M := by
  unfold F_X8_cheapestOpening_b76
  refine A_aload_n dX8_cheapestOpening_76 rfl ?_
  refine A_iload_n dX8_cheapestOpening_77 rfl ?_
  refine A_iload_n dX8_cheapestOpening_78 rfl ?_
  refine A_iload dX8_cheapestOpening_79 rfl ?_
  refine A_callVi (a_X8_leadsAll (l := l) fu _ _ _ _ ) lc_X8_122 rfl rfl (by decide) (Nat.le_of_ble_eq_true rfl) rfl dX8_cheapestOpening_81 (fun q1 Mq1 hq1 => ?_)
  refine A_if_eq (tgt := 90) dX8_cheapestOpening_84 (by decide) (fun _ => ?_) (fun _ => ?_)
  · exact (a_X8_cheapestOpening_b90 (l := l) fu x1 hk37 _ _ _ _ ).sub ⟨rfl, rfl, rfl, rfl, rfl, trivial⟩
  · refine A_iload dX8_cheapestOpening_87 rfl ?_
    refine A_istore_n dX8_cheapestOpening_89 (Nat.le_of_ble_eq_true rfl) rfl ?_
    exact (a_X8_cheapestOpening_b90 (l := l) fu x1 hk37 _ _ _ _ ).sub ⟨rfl, rfl, rfl, rfl, rfl, trivial⟩
def F_X8_cheapestOpening_b37 (fu : Nat)  (x1 : Int32)  : Nat → Int32 → Int32 → Int32 → xM → Option (Int32 × xM)
  | 0, _, _, _, _ => none
  | n + 1, x2, x3, x4, M =>
    (if (P_X1_all (M 5 1) M) < x4 then
    some (x3, M)
    else
    (F_X8_canOpen fu x4 M).bind fun q1 =>
    (if q1.1 = 0 then
    F_X8_cheapestOpening_b90 fu x1 (F_X8_cheapestOpening_b37 fu x1 n) x2 x3 x4 q1.2
    else
    (if x3 = (-1 : Int32) then
    F_X8_cheapestOpening_b76 fu x1 (F_X8_cheapestOpening_b37 fu x1 n) x2 x3 x4 q1.2
    else
    (F_X8_isCheaper fu x4 x3 q1.2).bind fun q2 =>
    (if q2.1 = 0 then
    F_X8_cheapestOpening_b90 fu x1 (F_X8_cheapestOpening_b37 fu x1 n) x2 x3 x4 q2.2
    else
    F_X8_cheapestOpening_b76 fu x1 (F_X8_cheapestOpening_b37 fu x1 n) x2 x3 x4 q2.2))))
set_option maxRecDepth 100000 in
set_option maxHeartbeats 4000000 in
theorem a_X8_cheapestOpening_b37 {l : Launch} (fu : Nat) (x1 : Int32)    : ∀ (n : Nat) (x2 : Int32) (x3 : Int32) (x4 : Int32) (M : xM), AW SC l RX8 cX8_cheapestOpening 5 (some .int) 7 ki (F_X8_cheapestOpening_b37 fu x1 n x2 x3 x4 M) 37 [some (xr 7), some (xi x1), some (xi x2), some (xi x3), some (xi x4)] [] M := by
  intro n
  induction n with
  | zero =>
    intro x2 x3 x4 M
    exact AW.none
  | succ n ih =>
    intro x2 x3 x4 M
    rw [F_X8_cheapestOpening_b37]
    refine A_iload dX8_cheapestOpening_37 rfl ?_
    refine A_aload_n dX8_cheapestOpening_39 rfl ?_
    refine A_getr lf_X8_32 rfl rfl dX8_cheapestOpening_40 ?_
    refine A_geti lf_X8_77 rfl rfl dX8_cheapestOpening_43 ?_
    refine A_callSp (a_X1_all (S := SC) (l := l) _ _ ) lc_X8_130 rfl (by decide) (Nat.le_of_ble_eq_true rfl) rfl dX8_cheapestOpening_46 ?_
    refine A_icmp_gt (tgt := 96) dX8_cheapestOpening_49 (by decide) (fun _ => ?_) (fun _ => ?_)
    · refine A_iload_n dX8_cheapestOpening_96 rfl ?_
      exact A_iret rfl dX8_cheapestOpening_97
    · refine A_aload_n dX8_cheapestOpening_52 rfl ?_
      refine A_iload dX8_cheapestOpening_53 rfl ?_
      refine A_callVi (a_X8_canOpen (l := l) fu _ _ ) lc_X8_133 rfl rfl (by decide) (Nat.le_of_ble_eq_true rfl) rfl dX8_cheapestOpening_55 (fun q1 Mq1 hq1 => ?_)
      refine A_if_eq (tgt := 90) dX8_cheapestOpening_58 (by decide) (fun _ => ?_) (fun _ => ?_)
      · exact (a_X8_cheapestOpening_b90 (l := l) fu x1 ih _ _ _ _ ).sub ⟨rfl, rfl, rfl, rfl, rfl, trivial⟩
      · refine A_iload_n dX8_cheapestOpening_61 rfl ?_
        refine A_iconst (v := (-1 : Int32)) dX8_cheapestOpening_62 oI_m1 ?_
        refine A_icmp_eq (tgt := 76) dX8_cheapestOpening_63 (by decide) (fun _ => ?_) (fun _ => ?_)
        · exact (a_X8_cheapestOpening_b76 (l := l) fu x1 ih _ _ _ _ ).sub ⟨rfl, rfl, rfl, rfl, rfl, trivial⟩
        · refine A_aload_n dX8_cheapestOpening_66 rfl ?_
          refine A_iload dX8_cheapestOpening_67 rfl ?_
          refine A_iload_n dX8_cheapestOpening_69 rfl ?_
          refine A_callVi (a_X8_isCheaper (l := l) fu _ _ _ ) lc_X8_137 rfl rfl (by decide) (Nat.le_of_ble_eq_true rfl) rfl dX8_cheapestOpening_70 (fun q2 Mq2 hq2 => ?_)
          refine A_if_eq (tgt := 90) dX8_cheapestOpening_73 (by decide) (fun _ => ?_) (fun _ => ?_)
          · exact (a_X8_cheapestOpening_b90 (l := l) fu x1 ih _ _ _ _ ).sub ⟨rfl, rfl, rfl, rfl, rfl, trivial⟩
          · exact (a_X8_cheapestOpening_b76 (l := l) fu x1 ih _ _ _ _ ).sub ⟨rfl, rfl, rfl, rfl, rfl, trivial⟩
def F_X8_cheapestOpening (fu : Nat)  (x1 : Int32)   (M : xM) : Option (Int32 × xM) :=
  (F_X0_officeOf fu x1 M).bind fun q1 =>
  (F_X8_weigh fu q1.1 (P_X1_bit x1 q1.2) q1.2).bind fun q2 =>
  (if q2.1 = 0 then
  some ((-1 : Int32), q2.2)
  else
  (F_X8_weighOpened fu q1.1 (P_X1_bit x1 q2.2) q2.2).bind fun q3 =>
  F_X8_cheapestOpening_b37 fu x1 fu q1.1 (-1 : Int32) (0 : Int32) q3)
set_option maxRecDepth 100000 in
set_option maxHeartbeats 4000000 in
theorem w_X8_cheapestOpening {l : Launch} (fu : Nat) (x1 : Int32)     (M : xM)  : AW SC l RX8 cX8_cheapestOpening 5 (some .int) 7 ki (F_X8_cheapestOpening fu x1  M) 0 [some (xr 7), some (xi x1), none, none, none] [] M := by
  unfold F_X8_cheapestOpening
  refine A_aload_n dX8_cheapestOpening_0 rfl ?_
  refine A_getr lf_X8_28 rfl rfl dX8_cheapestOpening_1 ?_
  refine A_iload_n dX8_cheapestOpening_4 rfl ?_
  refine A_callVi (a_X0_officeOf (l := l) fu _ _ ) lc_X8_109 rfl rfl (by decide) (Nat.le_of_ble_eq_true rfl) rfl dX8_cheapestOpening_5 (fun q1 Mq1 hq1 => ?_)
  refine A_istore_n dX8_cheapestOpening_8 (Nat.le_of_ble_eq_true rfl) rfl ?_
  refine A_aload_n dX8_cheapestOpening_9 rfl ?_
  refine A_iload_n dX8_cheapestOpening_10 rfl ?_
  refine A_iload_n dX8_cheapestOpening_11 rfl ?_
  refine A_callSp (a_X1_bit (S := SC) (l := l) _ _ ) lc_X8_112 rfl (by decide) (Nat.le_of_ble_eq_true rfl) rfl dX8_cheapestOpening_12 ?_
  refine A_callVi (a_X8_weigh (l := l) fu _ _ _ ) lc_X8_115 rfl rfl (by decide) (Nat.le_of_ble_eq_true rfl) rfl dX8_cheapestOpening_15 (fun q2 Mq2 hq2 => ?_)
  refine A_if_ne (tgt := 23) dX8_cheapestOpening_18 (by decide) (fun _ => ?_) (fun _ => ?_)
  · refine A_iconst (v := (-1 : Int32)) dX8_cheapestOpening_21 oI_m1 ?_
    exact A_iret rfl dX8_cheapestOpening_22
  · refine A_aload_n dX8_cheapestOpening_23 rfl ?_
    refine A_iload_n dX8_cheapestOpening_24 rfl ?_
    refine A_iload_n dX8_cheapestOpening_25 rfl ?_
    refine A_callSp (a_X1_bit (S := SC) (l := l) _ _ ) lc_X8_112 rfl (by decide) (Nat.le_of_ble_eq_true rfl) rfl dX8_cheapestOpening_26 ?_
    refine A_callVv (a_X8_weighOpened (l := l) fu _ _ _ ) lc_X8_126 rfl rfl (by decide) (Nat.le_of_ble_eq_true rfl) rfl dX8_cheapestOpening_29 (fun q3 hq3 => ?_)
    refine A_iconst (v := (-1 : Int32)) dX8_cheapestOpening_32 oI_m1 ?_
    refine A_istore_n dX8_cheapestOpening_33 (Nat.le_of_ble_eq_true rfl) rfl ?_
    refine A_iconst (v := (0 : Int32)) dX8_cheapestOpening_34 oI_0 ?_
    refine A_istore dX8_cheapestOpening_35 (Nat.le_of_ble_eq_true rfl) rfl ?_
    exact (a_X8_cheapestOpening_b37 (l := l) fu x1  fu _ _ _ _).sub ⟨rfl, rfl, rfl, rfl, rfl, trivial⟩
theorem a_X8_cheapestOpening {l : Launch} (fu : Nat)  (x1 : Int32) (M : xM)  : AM SC l yX8_cheapestOpening cX8_cheapestOpening 5 (some .int) 7 ki [xr 7, xi x1] M (F_X8_cheapestOpening fu x1  M) :=
  AM.of (L0 := [some (xr 7), some (xi x1), none, none, none]) (w_X8_cheapestOpening (l := l) fu x1  M ) (by decide +kernel) rfl (Nat.le_of_ble_eq_true rfl) ⟨rfl, rfl, trivial⟩
def F_X8_setAbsent_b27  (x1 : Int32) (x2 : Int32) (x3 : Int32)  (s0 : Int32) (M : xM) : Option (Int32 × xM) :=
  (if (P_X0_isLever x1 M) = 0 then
  some ((0 : Int32), M)
  else
  (if s0 = 0 then
  some ((0 : Int32), M)
  else
  (F_X1_put 41 16 x1 x2 M).bind fun q1 =>
  (F_X1_put 42 16 x1 x3 q1).bind fun q2 =>
  some ((1 : Int32), q2)))
set_option maxRecDepth 100000 in
set_option maxHeartbeats 4000000 in
theorem a_X8_setAbsent_b27 {l : Launch} (x1 : Int32) (x2 : Int32) (x3 : Int32)    (s0 : Int32) (M : xM)  : AW SC l RX8 cX8_setAbsent 5 (some .boolean) 2 ki (F_X8_setAbsent_b27 x1 x2 x3 s0 M) 27 [some (xr 7), some (xi x1), some (xi x2), some (xi x3), none] [xi s0] M := by
  unfold F_X8_setAbsent_b27
  refine A_istore dX8_setAbsent_27 (Nat.le_of_ble_eq_true rfl) rfl ?_
  refine A_aload_n dX8_setAbsent_29 rfl ?_
  refine A_getr lf_X8_28 rfl rfl dX8_setAbsent_30 ?_
  refine A_iload_n dX8_setAbsent_33 rfl ?_
  refine A_callVp (a_X0_isLever (l := l) _ _ ) lc_X8_152 rfl rfl (by decide) (Nat.le_of_ble_eq_true rfl) rfl dX8_setAbsent_34 ?_
  refine A_if_eq (tgt := 45) dX8_setAbsent_37 (by decide) (fun _ => ?_) (fun _ => ?_)
  · refine A_iconst (v := (0 : Int32)) dX8_setAbsent_45 oI_0 ?_
    exact A_zret' rfl (Or.inl rfl) dX8_setAbsent_46
  · refine A_iload dX8_setAbsent_40 rfl ?_
    refine A_if_ne (tgt := 47) dX8_setAbsent_42 (by decide) (fun _ => ?_) (fun _ => ?_)
    · refine A_iconst (v := (0 : Int32)) dX8_setAbsent_45 oI_0 ?_
      exact A_zret' rfl (Or.inl rfl) dX8_setAbsent_46
    · refine A_aload_n dX8_setAbsent_47 rfl ?_
      refine A_getr lf_X8_22 rfl rfl dX8_setAbsent_48 ?_
      refine A_iload_n dX8_setAbsent_51 rfl ?_
      refine A_iload_n dX8_setAbsent_52 rfl ?_
      refine A_callSv (a_X1_put (S := SC) (l := l) _ _ _ _ _ rfl) lc_X8_86 rfl (by decide) (Nat.le_of_ble_eq_true rfl) rfl dX8_setAbsent_53 (fun q1 hq1 => ?_)
      refine A_aload_n dX8_setAbsent_56 rfl ?_
      refine A_getr lf_X8_25 rfl rfl dX8_setAbsent_57 ?_
      refine A_iload_n dX8_setAbsent_60 rfl ?_
      refine A_iload_n dX8_setAbsent_61 rfl ?_
      refine A_callSv (a_X1_put (S := SC) (l := l) _ _ _ _ _ rfl) lc_X8_86 rfl (by decide) (Nat.le_of_ble_eq_true rfl) rfl dX8_setAbsent_62 (fun q2 hq2 => ?_)
      refine A_iconst (v := (1 : Int32)) dX8_setAbsent_65 oI_1 ?_
      exact A_zret' rfl (Or.inr rfl) dX8_setAbsent_66
def F_X8_setAbsent_b26  (x1 : Int32) (x2 : Int32) (x3 : Int32)   (M : xM) : Option (Int32 × xM) :=
  F_X8_setAbsent_b27 x1 x2 x3 (0 : Int32) M
set_option maxRecDepth 100000 in
set_option maxHeartbeats 4000000 in
theorem a_X8_setAbsent_b26 {l : Launch} (x1 : Int32) (x2 : Int32) (x3 : Int32)     (M : xM)  : AW SC l RX8 cX8_setAbsent 5 (some .boolean) 2 ki (F_X8_setAbsent_b26 x1 x2 x3  M) 26 [some (xr 7), some (xi x1), some (xi x2), some (xi x3), none] [] M := by
  unfold F_X8_setAbsent_b26
  refine A_iconst (v := (0 : Int32)) dX8_setAbsent_26 oI_0 ?_
  exact (a_X8_setAbsent_b27 (l := l) x1 x2 x3  _ _ ).sub ⟨rfl, rfl, rfl, rfl, trivial⟩
def F_X8_setAbsent  (x1 : Int32) (x2 : Int32) (x3 : Int32)   (M : xM) : Option (Int32 × xM) :=
  (if (P_X1_within x2 (0 : Int32) (9999 : Int32) M) = 0 then
  F_X8_setAbsent_b26 x1 x2 x3  M
  else
  (if (P_X1_within x3 x2 (9999 : Int32) M) = 0 then
  F_X8_setAbsent_b26 x1 x2 x3  M
  else
  F_X8_setAbsent_b27 x1 x2 x3 (1 : Int32) M))
set_option maxRecDepth 100000 in
set_option maxHeartbeats 4000000 in
theorem w_X8_setAbsent {l : Launch} (x1 : Int32) (x2 : Int32) (x3 : Int32)     (M : xM)  : AW SC l RX8 cX8_setAbsent 5 (some .boolean) 2 ki (F_X8_setAbsent x1 x2 x3  M) 0 [some (xr 7), some (xi x1), some (xi x2), some (xi x3), none] [] M := by
  unfold F_X8_setAbsent
  refine A_iload_n dX8_setAbsent_0 rfl ?_
  refine A_iconst (v := (0 : Int32)) dX8_setAbsent_1 oI_0 ?_
  refine A_sipush (v := (9999 : Int32)) dX8_setAbsent_2 oS_9999 ?_
  refine A_callSp (a_X1_within (S := SC) (l := l) _ _ _ _ ) lc_X8_149 rfl (by decide) (Nat.le_of_ble_eq_true rfl) rfl dX8_setAbsent_5 ?_
  refine A_if_eq (tgt := 26) dX8_setAbsent_8 (by decide) (fun _ => ?_) (fun _ => ?_)
  · exact (a_X8_setAbsent_b26 (l := l) x1 x2 x3   _ ).sub ⟨rfl, rfl, rfl, rfl, trivial⟩
  · refine A_iload_n dX8_setAbsent_11 rfl ?_
    refine A_iload_n dX8_setAbsent_12 rfl ?_
    refine A_sipush (v := (9999 : Int32)) dX8_setAbsent_13 oS_9999 ?_
    refine A_callSp (a_X1_within (S := SC) (l := l) _ _ _ _ ) lc_X8_149 rfl (by decide) (Nat.le_of_ble_eq_true rfl) rfl dX8_setAbsent_16 ?_
    refine A_if_eq (tgt := 26) dX8_setAbsent_19 (by decide) (fun _ => ?_) (fun _ => ?_)
    · exact (a_X8_setAbsent_b26 (l := l) x1 x2 x3   _ ).sub ⟨rfl, rfl, rfl, rfl, trivial⟩
    · refine A_iconst (v := (1 : Int32)) dX8_setAbsent_22 oI_1 ?_
      refine A_goto (tgt := 27) dX8_setAbsent_23 (by decide) ?_
      exact (a_X8_setAbsent_b27 (l := l) x1 x2 x3  _ _ ).sub ⟨rfl, rfl, rfl, rfl, trivial⟩
theorem a_X8_setAbsent {l : Launch}  (x1 : Int32) (x2 : Int32) (x3 : Int32) (M : xM)  : AM SC l yX8_setAbsent cX8_setAbsent 5 (some .boolean) 2 ki [xr 7, xi x1, xi x2, xi x3] M (F_X8_setAbsent  x1 x2 x3  M) :=
  AM.of (L0 := [some (xr 7), some (xi x1), some (xi x2), some (xi x3), none]) (w_X8_setAbsent (l := l) x1 x2 x3  M ) (by decide +kernel) rfl (Nat.le_of_ble_eq_true rfl) ⟨rfl, rfl, rfl, rfl, trivial⟩
def P_X8_leastAbsent  (x1 : Int32)   (M : xM) : Int32 :=
  (P_X1_at 41 16 x1 M)
set_option maxRecDepth 100000 in
set_option maxHeartbeats 4000000 in
theorem w_X8_leastAbsent {l : Launch} (x1 : Int32)     (M : xM)  : AW SC l RX8 cX8_leastAbsent 2 (some .int) 1 ki (some (P_X8_leastAbsent x1  M, M)) 0 [some (xr 7), some (xi x1)] [] M := by
  unfold P_X8_leastAbsent
  refine A_aload_n dX8_leastAbsent_0 rfl ?_
  refine A_getr lf_X8_22 rfl rfl dX8_leastAbsent_1 ?_
  refine A_iload_n dX8_leastAbsent_4 rfl ?_
  refine A_callSp (a_X1_at (S := SC) (l := l) _ _ _ _ rfl) lc_X8_43 rfl (by decide) (Nat.le_of_ble_eq_true rfl) rfl dX8_leastAbsent_5 ?_
  exact A_iret rfl dX8_leastAbsent_8
theorem a_X8_leastAbsent {l : Launch}  (x1 : Int32) (M : xM)  : AM SC l yX8_leastAbsent cX8_leastAbsent 2 (some .int) 1 ki [xr 7, xi x1] M (some (P_X8_leastAbsent  x1  M, M)) :=
  AM.of (L0 := [some (xr 7), some (xi x1)]) (w_X8_leastAbsent (l := l) x1  M ) (by decide +kernel) rfl (Nat.le_of_ble_eq_true rfl) ⟨rfl, rfl, trivial⟩
def P_X8_mostAbsent  (x1 : Int32)   (M : xM) : Int32 :=
  (P_X1_at 42 16 x1 M)
set_option maxRecDepth 100000 in
set_option maxHeartbeats 4000000 in
theorem w_X8_mostAbsent {l : Launch} (x1 : Int32)     (M : xM)  : AW SC l RX8 cX8_mostAbsent 2 (some .int) 1 ki (some (P_X8_mostAbsent x1  M, M)) 0 [some (xr 7), some (xi x1)] [] M := by
  unfold P_X8_mostAbsent
  refine A_aload_n dX8_mostAbsent_0 rfl ?_
  refine A_getr lf_X8_25 rfl rfl dX8_mostAbsent_1 ?_
  refine A_iload_n dX8_mostAbsent_4 rfl ?_
  refine A_callSp (a_X1_at (S := SC) (l := l) _ _ _ _ rfl) lc_X8_43 rfl (by decide) (Nat.le_of_ble_eq_true rfl) rfl dX8_mostAbsent_5 ?_
  exact A_iret rfl dX8_mostAbsent_8
theorem a_X8_mostAbsent {l : Launch}  (x1 : Int32) (M : xM)  : AM SC l yX8_mostAbsent cX8_mostAbsent 2 (some .int) 1 ki [xr 7, xi x1] M (some (P_X8_mostAbsent  x1  M, M)) :=
  AM.of (L0 := [some (xr 7), some (xi x1)]) (w_X8_mostAbsent (l := l) x1  M ) (by decide +kernel) rfl (Nat.le_of_ble_eq_true rfl) ⟨rfl, rfl, trivial⟩
