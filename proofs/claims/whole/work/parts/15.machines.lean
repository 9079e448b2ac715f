theorem oB_100 : (Int8.ofInt (100)).toInt32 = (100 : Int32) := by decide +kernel
theorem oI_5 : Int32.ofInt (5) = (5 : Int32) := by decide +kernel
theorem lf_X5_11 : xfl RX5 11 4 2 (tyX5 2) true := ⟨_, _, _, _, xc_X5, by decide, rfl, rfl, rfl, lw_gm 276 (by decide +kernel) rfl⟩
theorem lf_X5_18 : xfl RX5 18 4 4 (tyX5 4) true := ⟨_, _, _, _, xc_X5, by decide, rfl, rfl, rfl, lw_gm 281 (by decide +kernel) rfl⟩
theorem lf_X5_21 : xfl RX5 21 4 5 (tyX5 5) true := ⟨_, _, _, _, xc_X5, by decide, rfl, rfl, rfl, lw_gm 284 (by decide +kernel) rfl⟩
theorem lf_X5_26 : xfl RX5 26 4 6 (tyX5 6) true := ⟨_, _, _, _, xc_X5, by decide, rfl, rfl, rfl, lw_gm 287 (by decide +kernel) rfl⟩
theorem lf_X5_29 : xfl RX5 29 4 7 (tyX5 7) true := ⟨_, _, _, _, xc_X5, by decide, rfl, rfl, rfl, lw_gm 288 (by decide +kernel) rfl⟩
theorem lf_X5_32 : xfl RX5 32 4 8 (tyX5 8) true := ⟨_, _, _, _, xc_X5, by decide, rfl, rfl, rfl, lw_gm 289 (by decide +kernel) rfl⟩
theorem lf_X5_35 : xfl RX5 35 4 9 (tyX5 9) true := ⟨_, _, _, _, xc_X5, by decide, rfl, rfl, rfl, lw_gm 290 (by decide +kernel) rfl⟩
theorem lf_X5_38 : xfl RX5 38 4 10 (tyX5 10) true := ⟨_, _, _, _, xc_X5, by decide, rfl, rfl, rfl, lw_gm 291 (by decide +kernel) rfl⟩
theorem lf_X5_41 : xfl RX5 41 4 11 (tyX5 11) true := ⟨_, _, _, _, xc_X5, by decide, rfl, rfl, rfl, lw_gm 292 (by decide +kernel) rfl⟩
theorem lf_X5_44 : xfl RX5 44 4 12 (tyX5 12) true := ⟨_, _, _, _, xc_X5, by decide, rfl, rfl, rfl, lw_gm 293 (by decide +kernel) rfl⟩
theorem lf_X5_47 : xfl RX5 47 4 0 (tyX5 0) true := ⟨_, _, _, _, xc_X5, by decide, rfl, rfl, rfl, lw_gm 272 (by decide +kernel) rfl⟩
theorem lf_X5_51 : xfl RX5 51 4 1 (tyX5 1) false := ⟨_, _, _, _, xc_X5, by decide, rfl, rfl, rfl, lw_gm 273 (by decide +kernel) rfl⟩
theorem lf_X5_97 : xfl RX5 97 0 0 (tyX0 0) true := ⟨_, _, _, _, xc_X0, by decide, rfl, rfl, rfl, lw_gm 150 (by decide +kernel) rfl⟩
theorem lc_X5_100 : xlV RX5 100 yX5_latest cX5_latest 5 (some .int) 2 4 := ⟨⟨lw_gm 1380 (by decide +kernel) rfl, lw_gm 111 (by decide +kernel) rfl, lw_gm 1383 (by decide +kernel) rfl, ⟨by decide, by decide, by decide +kernel⟩, by decide⟩, lw_gm 1382 (by decide +kernel) rfl, lw_gm 38 (by decide +kernel) rfl, _, _, rfl⟩
theorem lc_X5_103 : xlV RX5 103 yX5_shownAt cX5_shownAt 3 (some .int) 2 4 := ⟨⟨lw_gm 1384 (by decide +kernel) rfl, lw_gm 111 (by decide +kernel) rfl, lw_gm 895 (by decide +kernel) rfl, ⟨by decide, by decide, by decide +kernel⟩, by decide⟩, lw_gm 893 (by decide +kernel) rfl, lw_gm 894 (by decide +kernel) rfl, _, _, rfl⟩
theorem lc_X5_106 : xlS RX5 106 yX1_bit cX1_bit 1 (some .int) 1 := ⟨⟨lw_gm 1385 (by decide +kernel) rfl, lw_gm 106 (by decide +kernel) rfl, lw_gm 515 (by decide +kernel) rfl, ⟨by decide, by decide, by decide +kernel⟩, by decide⟩, lw_gm 514 (by decide +kernel) rfl⟩
theorem lc_X5_109 : xlV RX5 109 yX5_unlikeShown cX5_unlikeShown 4 (some .int) 1 4 := ⟨⟨lw_gm 1394 (by decide +kernel) rfl, lw_gm 111 (by decide +kernel) rfl, lw_gm 1379 (by decide +kernel) rfl, ⟨by decide, by decide, by decide +kernel⟩, by decide⟩, lw_gm 1377 (by decide +kernel) rfl, lw_gm 1378 (by decide +kernel) rfl, _, _, rfl⟩
theorem lc_X5_112 : xlS RX5 112 yJ6_bitCount_0f7a4 cJ6_bitCount_0f7a4 1 (some .int) 1 := ⟨⟨lw_gm 1395 (by decide +kernel) rfl, lw_gm 118 (by decide +kernel) rfl, lw_gm 521 (by decide +kernel) rfl, ⟨by decide, by decide, by decide +kernel⟩, by decide⟩, lw_gm 520 (by decide +kernel) rfl⟩
theorem lc_X5_55 : xlS RX5 55 yX1_within cX1_within 3 (some .boolean) 3 := ⟨⟨lw_gm 751 (by decide +kernel) rfl, lw_gm 106 (by decide +kernel) rfl, lw_gm 518 (by decide +kernel) rfl, ⟨by decide, by decide, by decide +kernel⟩, by decide⟩, lw_gm 517 (by decide +kernel) rfl⟩
theorem lc_X5_61 : xlS RX5 61 yX5_isNumber cX5_isNumber 1 (some .boolean) 1 := ⟨⟨lw_gm 772 (by decide +kernel) rfl, lw_gm 111 (by decide +kernel) rfl, lw_gm 774 (by decide +kernel) rfl, ⟨by decide, by decide, by decide +kernel⟩, by decide⟩, lw_gm 773 (by decide +kernel) rfl⟩
theorem lc_X5_65 : xlS RX5 65 yX1_put cX1_put 3 none 3 := ⟨⟨lw_gm 775 (by decide +kernel) rfl, lw_gm 106 (by decide +kernel) rfl, lw_gm 527 (by decide +kernel) rfl, ⟨by decide, by decide, by decide +kernel⟩, by decide⟩, lw_gm 526 (by decide +kernel) rfl⟩
theorem lc_X5_69 : xlV RX5 69 yX5_isMachine cX5_isMachine 2 (some .boolean) 1 4 := ⟨⟨lw_gm 803 (by decide +kernel) rfl, lw_gm 111 (by decide +kernel) rfl, lw_gm 750 (by decide +kernel) rfl, ⟨by decide, by decide, by decide +kernel⟩, by decide⟩, lw_gm 748 (by decide +kernel) rfl, lw_gm 749 (by decide +kernel) rfl, _, _, rfl⟩
theorem lc_X5_72 : xlV RX5 72 yX0_isLever cX0_isLever 2 (some .boolean) 1 0 := ⟨⟨lw_gm 804 (by decide +kernel) rfl, lw_gm 105 (by decide +kernel) rfl, lw_gm 807 (by decide +kernel) rfl, ⟨by decide, by decide, by decide +kernel⟩, by decide⟩, lw_gm 805 (by decide +kernel) rfl, lw_gm 806 (by decide +kernel) rfl, _, _, rfl⟩
theorem lc_X5_75 : xlV RX5 75 yX5_isCounter cX5_isCounter 3 (some .boolean) 2 4 := ⟨⟨lw_gm 799 (by decide +kernel) rfl, lw_gm 111 (by decide +kernel) rfl, lw_gm 802 (by decide +kernel) rfl, ⟨by decide, by decide, by decide +kernel⟩, by decide⟩, lw_gm 801 (by decide +kernel) rfl, lw_gm 13 (by decide +kernel) rfl, _, _, rfl⟩
theorem lc_X5_79 : xlS RX5 79 yX5_counter cX5_counter 2 (some .int) 2 := ⟨⟨lw_gm 808 (by decide +kernel) rfl, lw_gm 111 (by decide +kernel) rfl, lw_gm 810 (by decide +kernel) rfl, ⟨by decide, by decide, by decide +kernel⟩, by decide⟩, lw_gm 809 (by decide +kernel) rfl⟩
theorem lc_X5_83 : xlS RX5 83 yX1_at cX1_at 2 (some .int) 2 := ⟨⟨lw_gm 823 (by decide +kernel) rfl, lw_gm 106 (by decide +kernel) rfl, lw_gm 560 (by decide +kernel) rfl, ⟨by decide, by decide, by decide +kernel⟩, by decide⟩, lw_gm 559 (by decide +kernel) rfl⟩
theorem lc_X5_87 : xlV RX5 87 yX5_faultsOf cX5_faultsOf 2 (some .int) 1 4 := ⟨⟨lw_gm 819 (by decide +kernel) rfl, lw_gm 111 (by decide +kernel) rfl, lw_gm 822 (by decide +kernel) rfl, ⟨by decide, by decide, by decide +kernel⟩, by decide⟩, lw_gm 820 (by decide +kernel) rfl, lw_gm 821 (by decide +kernel) rfl, _, _, rfl⟩
theorem lc_X5_91 : xlV RX5 91 yX5_canBe cX5_canBe 4 (some .boolean) 3 4 := ⟨⟨lw_gm 824 (by decide +kernel) rfl, lw_gm 111 (by decide +kernel) rfl, lw_gm 827 (by decide +kernel) rfl, ⟨by decide, by decide, by decide +kernel⟩, by decide⟩, lw_gm 826 (by decide +kernel) rfl, lw_gm 14 (by decide +kernel) rfl, _, _, rfl⟩
theorem lc_X5_94 : xlV RX5 94 yX0_isOffice cX0_isOffice 2 (some .boolean) 1 0 := ⟨⟨lw_gm 828 (by decide +kernel) rfl, lw_gm 105 (by decide +kernel) rfl, lw_gm 831 (by decide +kernel) rfl, ⟨by decide, by decide, by decide +kernel⟩, by decide⟩, lw_gm 829 (by decide +kernel) rfl, lw_gm 830 (by decide +kernel) rfl, _, _, rfl⟩
def P_X5_isMachine  (x1 : Int32)   (M : xM) : Int32 :=
  (P_X1_within x1 (0 : Int32) ((M 5 1) - (1 : Int32)) M)
set_option maxRecDepth 100000 in
set_option maxHeartbeats 4000000 in
theorem w_X5_isMachine {l : Launch} (x1 : Int32)     (M : xM)  : AW SC l RX5 cX5_isMachine 2 (some .boolean) 1 ki (some (P_X5_isMachine x1  M, M)) 0 [some (xr 5), some (xi x1)] [] M := by
  unfold P_X5_isMachine
  refine A_iload_n dX5_isMachine_0 rfl ?_
  refine A_iconst (v := (0 : Int32)) dX5_isMachine_1 oI_0 ?_
  refine A_aload_n dX5_isMachine_2 rfl ?_
  refine A_geti lf_X5_51 rfl rfl dX5_isMachine_3 ?_
  refine A_iconst (v := (1 : Int32)) dX5_isMachine_6 oI_1 ?_
  refine A_isub dX5_isMachine_7 ?_
  refine A_callSp (a_X1_within (S := SC) (l := l) _ _ _ _ ) lc_X5_55 rfl (by decide) (Nat.le_of_ble_eq_true rfl) rfl dX5_isMachine_8 ?_
  exact A_zret' rfl (zP_X1_within _ _ _ _) dX5_isMachine_11
theorem a_X5_isMachine {l : Launch}  (x1 : Int32) (M : xM)  : AM SC l yX5_isMachine cX5_isMachine 2 (some .boolean) 1 ki [xr 5, xi x1] M (some (P_X5_isMachine  x1  M, M)) :=
  AM.of (L0 := [some (xr 5), some (xi x1)]) (w_X5_isMachine (l := l) x1  M ) (by decide +kernel) rfl (Nat.le_of_ble_eq_true rfl) ⟨rfl, rfl, trivial⟩
theorem zP_X5_isMachine (x1 : Int32) (M : xM) : P_X5_isMachine x1 M = 0 ∨ P_X5_isMachine x1 M = 1 := by
  unfold P_X5_isMachine
  repeat' split
  all_goals first | decide | with_reducible exact zP_X1_within _ _ _ _
def P_X5_isNumber  (x0 : Int32)   (M : xM) : Int32 :=
  (P_X1_within x0 (0 : Int32) (999 : Int32) M)
set_option maxRecDepth 100000 in
set_option maxHeartbeats 4000000 in
theorem w_X5_isNumber {l : Launch} (x0 : Int32)     (M : xM)  : AW SC l RX5 cX5_isNumber 1 (some .boolean) 1 ki (some (P_X5_isNumber x0  M, M)) 0 [some (xi x0)] [] M := by
  unfold P_X5_isNumber
  refine A_iload_n dX5_isNumber_0 rfl ?_
  refine A_iconst (v := (0 : Int32)) dX5_isNumber_1 oI_0 ?_
  refine A_sipush (v := (999 : Int32)) dX5_isNumber_2 oS_999 ?_
  refine A_callSp (a_X1_within (S := SC) (l := l) _ _ _ _ ) lc_X5_55 rfl (by decide) (Nat.le_of_ble_eq_true rfl) rfl dX5_isNumber_5 ?_
  exact A_zret' rfl (zP_X1_within _ _ _ _) dX5_isNumber_8
theorem a_X5_isNumber {l : Launch}  (x0 : Int32) (M : xM)  : AM SC l yX5_isNumber cX5_isNumber 1 (some .boolean) 1 ki [xi x0] M (some (P_X5_isNumber  x0  M, M)) :=
  AM.of (L0 := [some (xi x0)]) (w_X5_isNumber (l := l) x0  M ) (by decide +kernel) rfl (Nat.le_of_ble_eq_true rfl) ⟨rfl, trivial⟩
theorem zP_X5_isNumber (x0 : Int32) (M : xM) : P_X5_isNumber x0 M = 0 ∨ P_X5_isNumber x0 M = 1 := by
  unfold P_X5_isNumber
  repeat' split
  all_goals first | decide | with_reducible exact zP_X1_within _ _ _ _
def F_X5_add_b42  (x1 : Int32) (x2 : Int32) (x3 : Int32) (x4 : Int32) (x5 : Int32)  (s0 : Int32) (M : xM) : Option (Int32 × xM) :=
  (if s0 = 0 then
  some ((-1 : Int32), M)
  else
  (if (M 5 1) < (6 : Int32) then
  (F_X1_put 22 30 ((M 5 1) * (5 : Int32)) x1 M).bind fun q1 =>
  (F_X1_put 22 30 (((M 5 1) * (5 : Int32)) + (1 : Int32)) x2 q1).bind fun q2 =>
  (F_X1_put 22 30 (((M 5 1) * (5 : Int32)) + (2 : Int32)) x3 q2).bind fun q3 =>
  (F_X1_put 22 30 (((M 5 1) * (5 : Int32)) + (3 : Int32)) x4 q3).bind fun q4 =>
  (F_X1_put 22 30 (((M 5 1) * (5 : Int32)) + (4 : Int32)) x5 q4).bind fun q5 =>
  (F_X1_put 24 6 (q5 5 1) (-1 : Int32) q5).bind fun q6 =>
  (F_X1_put 25 6 (q6 5 1) (1 : Int32) q6).bind fun q7 =>
  some ((q7 5 1), (xset q7 5 1 ((q7 5 1) + (1 : Int32))))
  else
  some ((-1 : Int32), M)))
set_option maxRecDepth 100000 in
set_option maxHeartbeats 4000000 in
theorem a_X5_add_b42 {l : Launch} (x1 : Int32) (x2 : Int32) (x3 : Int32) (x4 : Int32) (x5 : Int32)    (s0 : Int32) (M : xM)  : AW SC l RX5 cX5_add 8 (some .int) 2 ki (F_X5_add_b42 x1 x2 x3 x4 x5 s0 M) 42 [some (xr 5), some (xi x1), some (xi x2), some (xi x3), some (xi x4), some (xi x5), none, none] [xi s0] M := by
  unfold F_X5_add_b42
  refine A_istore dX5_add_42 (Nat.le_of_ble_eq_true rfl) rfl ?_
  refine A_iload dX5_add_44 rfl ?_
  refine A_if_eq (tgt := 58) dX5_add_46 (by decide) (fun _ => ?_) (fun _ => ?_)
  · refine A_iconst (v := (-1 : Int32)) dX5_add_58 oI_m1 ?_
    exact A_iret rfl dX5_add_59
  · refine A_aload_n dX5_add_49 rfl ?_
    refine A_geti lf_X5_51 rfl rfl dX5_add_50 ?_
    refine A_bipush (v := (6 : Int32)) dX5_add_53 oB_6 ?_
    refine A_icmp_lt (tgt := 60) dX5_add_55 (by decide) (fun _ => ?_) (fun _ => ?_)
    · refine A_aload_n dX5_add_60 rfl ?_
      refine A_geti lf_X5_51 rfl rfl dX5_add_61 ?_
      refine A_iconst (v := (5 : Int32)) dX5_add_64 oI_5 ?_
      refine A_imul dX5_add_65 ?_
      refine A_istore dX5_add_66 (Nat.le_of_ble_eq_true rfl) rfl ?_
      refine A_aload_n dX5_add_68 rfl ?_
      refine A_getr lf_X5_11 rfl rfl dX5_add_69 ?_
      refine A_iload dX5_add_72 rfl ?_
      refine A_iload_n dX5_add_74 rfl ?_
      refine A_callSv (a_X1_put (S := SC) (l := l) _ _ _ _ _ rfl) lc_X5_65 rfl (by decide) (Nat.le_of_ble_eq_true rfl) rfl dX5_add_75 (fun q1 hq1 => ?_)
      refine A_aload_n dX5_add_78 rfl ?_
      refine A_getr lf_X5_11 rfl rfl dX5_add_79 ?_
      refine A_iload dX5_add_82 rfl ?_
      refine A_iconst (v := (1 : Int32)) dX5_add_84 oI_1 ?_
      refine A_iadd dX5_add_85 ?_
      refine A_iload_n dX5_add_86 rfl ?_
      refine A_callSv (a_X1_put (S := SC) (l := l) _ _ _ _ _ rfl) lc_X5_65 rfl (by decide) (Nat.le_of_ble_eq_true rfl) rfl dX5_add_87 (fun q2 hq2 => ?_)
      refine A_aload_n dX5_add_90 rfl ?_
      refine A_getr lf_X5_11 rfl rfl dX5_add_91 ?_
      refine A_iload dX5_add_94 rfl ?_
      refine A_iconst (v := (2 : Int32)) dX5_add_96 oI_2 ?_
      refine A_iadd dX5_add_97 ?_
      refine A_iload_n dX5_add_98 rfl ?_
      refine A_callSv (a_X1_put (S := SC) (l := l) _ _ _ _ _ rfl) lc_X5_65 rfl (by decide) (Nat.le_of_ble_eq_true rfl) rfl dX5_add_99 (fun q3 hq3 => ?_)
      refine A_aload_n dX5_add_102 rfl ?_
      refine A_getr lf_X5_11 rfl rfl dX5_add_103 ?_
      refine A_iload dX5_add_106 rfl ?_
      refine A_iconst (v := (3 : Int32)) dX5_add_108 oI_3 ?_
      refine A_iadd dX5_add_109 ?_
      refine A_iload dX5_add_110 rfl ?_
      refine A_callSv (a_X1_put (S := SC) (l := l) _ _ _ _ _ rfl) lc_X5_65 rfl (by decide) (Nat.le_of_ble_eq_true rfl) rfl dX5_add_112 (fun q4 hq4 => ?_)
      refine A_aload_n dX5_add_115 rfl ?_
      refine A_getr lf_X5_11 rfl rfl dX5_add_116 ?_
      refine A_iload dX5_add_119 rfl ?_
      refine A_iconst (v := (4 : Int32)) dX5_add_121 oI_4 ?_
      refine A_iadd dX5_add_122 ?_
      refine A_iload dX5_add_123 rfl ?_
      refine A_callSv (a_X1_put (S := SC) (l := l) _ _ _ _ _ rfl) lc_X5_65 rfl (by decide) (Nat.le_of_ble_eq_true rfl) rfl dX5_add_125 (fun q5 hq5 => ?_)
      refine A_aload_n dX5_add_128 rfl ?_
      refine A_getr lf_X5_18 rfl rfl dX5_add_129 ?_
      refine A_aload_n dX5_add_132 rfl ?_
      refine A_geti lf_X5_51 rfl rfl dX5_add_133 ?_
      refine A_iconst (v := (-1 : Int32)) dX5_add_136 oI_m1 ?_
      refine A_callSv (a_X1_put (S := SC) (l := l) _ _ _ _ _ rfl) lc_X5_65 rfl (by decide) (Nat.le_of_ble_eq_true rfl) rfl dX5_add_137 (fun q6 hq6 => ?_)
      refine A_aload_n dX5_add_140 rfl ?_
      refine A_getr lf_X5_21 rfl rfl dX5_add_141 ?_
      refine A_aload_n dX5_add_144 rfl ?_
      refine A_geti lf_X5_51 rfl rfl dX5_add_145 ?_
      refine A_iconst (v := (1 : Int32)) dX5_add_148 oI_1 ?_
      refine A_callSv (a_X1_put (S := SC) (l := l) _ _ _ _ _ rfl) lc_X5_65 rfl (by decide) (Nat.le_of_ble_eq_true rfl) rfl dX5_add_149 (fun q7 hq7 => ?_)
      refine A_aload_n dX5_add_152 rfl ?_
      refine A_dup dX5_add_153 rfl ?_
      refine A_geti lf_X5_51 rfl rfl dX5_add_154 ?_
      refine A_dup_x1 dX5_add_157 rfl rfl ?_
      refine A_iconst (v := (1 : Int32)) dX5_add_158 oI_1 ?_
      refine A_iadd dX5_add_159 ?_
      refine A_puti lf_X5_51 rfl rfl dX5_add_160 ?_
      exact A_iret rfl dX5_add_163
    · refine A_iconst (v := (-1 : Int32)) dX5_add_58 oI_m1 ?_
      exact A_iret rfl dX5_add_59
def F_X5_add_b41  (x1 : Int32) (x2 : Int32) (x3 : Int32) (x4 : Int32) (x5 : Int32)   (M : xM) : Option (Int32 × xM) :=
  F_X5_add_b42 x1 x2 x3 x4 x5 (0 : Int32) M
set_option maxRecDepth 100000 in
set_option maxHeartbeats 4000000 in
theorem a_X5_add_b41 {l : Launch} (x1 : Int32) (x2 : Int32) (x3 : Int32) (x4 : Int32) (x5 : Int32)     (M : xM)  : AW SC l RX5 cX5_add 8 (some .int) 2 ki (F_X5_add_b41 x1 x2 x3 x4 x5  M) 41 [some (xr 5), some (xi x1), some (xi x2), some (xi x3), some (xi x4), some (xi x5), none, none] [] M := by
  unfold F_X5_add_b41
  refine A_iconst (v := (0 : Int32)) dX5_add_41 oI_0 ?_
  exact (a_X5_add_b42 (l := l) x1 x2 x3 x4 x5  _ _ ).sub ⟨rfl, rfl, rfl, rfl, rfl, rfl, trivial⟩
def F_X5_add  (x1 : Int32) (x2 : Int32) (x3 : Int32) (x4 : Int32) (x5 : Int32)   (M : xM) : Option (Int32 × xM) :=
  (if (P_X5_isNumber x1 M) = 0 then
  F_X5_add_b41 x1 x2 x3 x4 x5  M
  else
  (if (P_X5_isNumber x2 M) = 0 then
  F_X5_add_b41 x1 x2 x3 x4 x5  M
  else
  (if (P_X5_isNumber x3 M) = 0 then
  F_X5_add_b41 x1 x2 x3 x4 x5  M
  else
  (if (P_X5_isNumber x4 M) = 0 then
  F_X5_add_b41 x1 x2 x3 x4 x5  M
  else
  (if (P_X5_isNumber x5 M) = 0 then
  F_X5_add_b41 x1 x2 x3 x4 x5  M
  else
  F_X5_add_b42 x1 x2 x3 x4 x5 (1 : Int32) M)))))
set_option maxRecDepth 100000 in
set_option maxHeartbeats 4000000 in
theorem w_X5_add {l : Launch} (x1 : Int32) (x2 : Int32) (x3 : Int32) (x4 : Int32) (x5 : Int32)     (M : xM)  : AW SC l RX5 cX5_add 8 (some .int) 2 ki (F_X5_add x1 x2 x3 x4 x5  M) 0 [some (xr 5), some (xi x1), some (xi x2), some (xi x3), some (xi x4), some (xi x5), none, none] [] M := by
  unfold F_X5_add
  refine A_iload_n dX5_add_0 rfl ?_
  refine A_callSp (a_X5_isNumber (l := l) _ _ ) lc_X5_61 rfl (by decide) (Nat.le_of_ble_eq_true rfl) rfl dX5_add_1 ?_
  refine A_if_eq (tgt := 41) dX5_add_4 (by decide) (fun _ => ?_) (fun _ => ?_)
  · exact (a_X5_add_b41 (l := l) x1 x2 x3 x4 x5   _ ).sub ⟨rfl, rfl, rfl, rfl, rfl, rfl, trivial⟩
  · refine A_iload_n dX5_add_7 rfl ?_
    refine A_callSp (a_X5_isNumber (l := l) _ _ ) lc_X5_61 rfl (by decide) (Nat.le_of_ble_eq_true rfl) rfl dX5_add_8 ?_
    refine A_if_eq (tgt := 41) dX5_add_11 (by decide) (fun _ => ?_) (fun _ => ?_)
    · exact (a_X5_add_b41 (l := l) x1 x2 x3 x4 x5   _ ).sub ⟨rfl, rfl, rfl, rfl, rfl, rfl, trivial⟩
    · refine A_iload_n dX5_add_14 rfl ?_
      refine A_callSp (a_X5_isNumber (l := l) _ _ ) lc_X5_61 rfl (by decide) (Nat.le_of_ble_eq_true rfl) rfl dX5_add_15 ?_
      refine A_if_eq (tgt := 41) dX5_add_18 (by decide) (fun _ => ?_) (fun _ => ?_)
      · exact (a_X5_add_b41 (l := l) x1 x2 x3 x4 x5   _ ).sub ⟨rfl, rfl, rfl, rfl, rfl, rfl, trivial⟩
      · refine A_iload dX5_add_21 rfl ?_
        refine A_callSp (a_X5_isNumber (l := l) _ _ ) lc_X5_61 rfl (by decide) (Nat.le_of_ble_eq_true rfl) rfl dX5_add_23 ?_
        refine A_if_eq (tgt := 41) dX5_add_26 (by decide) (fun _ => ?_) (fun _ => ?_)
        · exact (a_X5_add_b41 (l := l) x1 x2 x3 x4 x5   _ ).sub ⟨rfl, rfl, rfl, rfl, rfl, rfl, trivial⟩
        · refine A_iload dX5_add_29 rfl ?_
          refine A_callSp (a_X5_isNumber (l := l) _ _ ) lc_X5_61 rfl (by decide) (Nat.le_of_ble_eq_true rfl) rfl dX5_add_31 ?_
          refine A_if_eq (tgt := 41) dX5_add_34 (by decide) (fun _ => ?_) (fun _ => ?_)
          · exact (a_X5_add_b41 (l := l) x1 x2 x3 x4 x5   _ ).sub ⟨rfl, rfl, rfl, rfl, rfl, rfl, trivial⟩
          · refine A_iconst (v := (1 : Int32)) dX5_add_37 oI_1 ?_
            refine A_goto (tgt := 42) dX5_add_38 (by decide) ?_
            exact (a_X5_add_b42 (l := l) x1 x2 x3 x4 x5  _ _ ).sub ⟨rfl, rfl, rfl, rfl, rfl, rfl, trivial⟩
theorem a_X5_add {l : Launch}  (x1 : Int32) (x2 : Int32) (x3 : Int32) (x4 : Int32) (x5 : Int32) (M : xM)  : AM SC l yX5_add cX5_add 8 (some .int) 2 ki [xr 5, xi x1, xi x2, xi x3, xi x4, xi x5] M (F_X5_add  x1 x2 x3 x4 x5  M) :=
  AM.of (L0 := [some (xr 5), some (xi x1), some (xi x2), some (xi x3), some (xi x4), some (xi x5), none, none]) (w_X5_add (l := l) x1 x2 x3 x4 x5  M ) (by decide +kernel) rfl (Nat.le_of_ble_eq_true rfl) ⟨rfl, rfl, rfl, rfl, rfl, rfl, trivial⟩
def P_X5_isCounter  (x1 : Int32) (x2 : Int32)   (M : xM) : Int32 :=
  (if (P_X5_isMachine x1 M) = 0 then
  (0 : Int32)
  else
  (if (P_X0_isLever x2 M) = 0 then
  (0 : Int32)
  else
  (1 : Int32)))
set_option maxRecDepth 100000 in
set_option maxHeartbeats 4000000 in
theorem w_X5_isCounter {l : Launch} (x1 : Int32) (x2 : Int32)     (M : xM)  : AW SC l RX5 cX5_isCounter 3 (some .boolean) 2 ki (some (P_X5_isCounter x1 x2  M, M)) 0 [some (xr 5), some (xi x1), some (xi x2)] [] M := by
  unfold P_X5_isCounter
  refine A_aload_n dX5_isCounter_0 rfl ?_
  refine A_iload_n dX5_isCounter_1 rfl ?_
  refine A_callVp (a_X5_isMachine (l := l) _ _ ) lc_X5_69 rfl rfl (by decide) (Nat.le_of_ble_eq_true rfl) rfl dX5_isCounter_2 ?_
  refine A_if_eq_p (tgt := 23) dX5_isCounter_5 (by decide) (fun _ => ?_) (fun _ => ?_)
  · refine A_iconst (v := (0 : Int32)) dX5_isCounter_23 oI_0 ?_
    exact A_zret' rfl (Or.inl rfl) dX5_isCounter_24
  · refine A_aload_n dX5_isCounter_8 rfl ?_
    refine A_getr lf_X5_47 rfl rfl dX5_isCounter_9 ?_
    refine A_iload_n dX5_isCounter_12 rfl ?_
    refine A_callVp (a_X0_isLever (l := l) _ _ ) lc_X5_72 rfl rfl (by decide) (Nat.le_of_ble_eq_true rfl) rfl dX5_isCounter_13 ?_
    refine A_if_eq_p (tgt := 23) dX5_isCounter_16 (by decide) (fun _ => ?_) (fun _ => ?_)
    · refine A_iconst (v := (0 : Int32)) dX5_isCounter_23 oI_0 ?_
      exact A_zret' rfl (Or.inl rfl) dX5_isCounter_24
    · refine A_iconst (v := (1 : Int32)) dX5_isCounter_19 oI_1 ?_
      refine A_goto (tgt := 24) dX5_isCounter_20 (by decide) ?_
      exact A_zret' rfl (Or.inr rfl) dX5_isCounter_24
theorem a_X5_isCounter {l : Launch}  (x1 : Int32) (x2 : Int32) (M : xM)  : AM SC l yX5_isCounter cX5_isCounter 3 (some .boolean) 2 ki [xr 5, xi x1, xi x2] M (some (P_X5_isCounter  x1 x2  M, M)) :=
  AM.of (L0 := [some (xr 5), some (xi x1), some (xi x2)]) (w_X5_isCounter (l := l) x1 x2  M ) (by decide +kernel) rfl (Nat.le_of_ble_eq_true rfl) ⟨rfl, rfl, rfl, trivial⟩
theorem zP_X5_isCounter (x1 : Int32) (x2 : Int32) (M : xM) : P_X5_isCounter x1 x2 M = 0 ∨ P_X5_isCounter x1 x2 M = 1 := by
  unfold P_X5_isCounter
  repeat' split
  all_goals first | decide | with_reducible exact zP_X5_isMachine _ _ | with_reducible exact zP_X0_isLever _ _
def P_X5_counter  (x0 : Int32) (x1 : Int32)   (M : xM) : Int32 :=
  ((x0 * (16 : Int32)) + x1)
set_option maxRecDepth 100000 in
set_option maxHeartbeats 4000000 in
theorem w_X5_counter {l : Launch} (x0 : Int32) (x1 : Int32)     (M : xM)  : AW SC l RX5 cX5_counter 2 (some .int) 0 ki (some (P_X5_counter x0 x1  M, M)) 0 [some (xi x0), some (xi x1)] [] M := by
  unfold P_X5_counter
  refine A_iload_n dX5_counter_0 rfl ?_
  refine A_bipush (v := (16 : Int32)) dX5_counter_1 oB_16 ?_
  refine A_imul dX5_counter_3 ?_
  refine A_iload_n dX5_counter_4 rfl ?_
  refine A_iadd dX5_counter_5 ?_
  exact A_iret rfl dX5_counter_6
theorem a_X5_counter {l : Launch}  (x0 : Int32) (x1 : Int32) (M : xM)  : AM SC l yX5_counter cX5_counter 2 (some .int) 0 ki [xi x0, xi x1] M (some (P_X5_counter  x0 x1  M, M)) :=
  AM.of (L0 := [some (xi x0), some (xi x1)]) (w_X5_counter (l := l) x0 x1  M ) (by decide +kernel) rfl (Nat.le_of_ble_eq_true rfl) ⟨rfl, rfl, trivial⟩
def F_X5_setShown  (x1 : Int32) (x2 : Int32) (x3 : Int32)   (M : xM) : Option (Int32 × xM) :=
  (if (P_X5_isCounter x1 x2 M) = 0 then
  some ((0 : Int32), M)
  else
  (if (P_X5_isNumber x3 M) = 0 then
  some ((0 : Int32), M)
  else
  (F_X1_put 26 96 (P_X5_counter x1 x2 M) x3 M).bind fun q1 =>
  some ((1 : Int32), q1)))
set_option maxRecDepth 100000 in
set_option maxHeartbeats 4000000 in
theorem w_X5_setShown {l : Launch} (x1 : Int32) (x2 : Int32) (x3 : Int32)     (M : xM)  : AW SC l RX5 cX5_setShown 4 (some .boolean) 3 ki (F_X5_setShown x1 x2 x3  M) 0 [some (xr 5), some (xi x1), some (xi x2), some (xi x3)] [] M := by
  unfold F_X5_setShown
  refine A_aload_n dX5_setShown_0 rfl ?_
  refine A_iload_n dX5_setShown_1 rfl ?_
  refine A_iload_n dX5_setShown_2 rfl ?_
  refine A_callVp (a_X5_isCounter (l := l) _ _ _ ) lc_X5_75 rfl rfl (by decide) (Nat.le_of_ble_eq_true rfl) rfl dX5_setShown_3 ?_
  refine A_if_eq (tgt := 16) dX5_setShown_6 (by decide) (fun _ => ?_) (fun _ => ?_)
  · refine A_iconst (v := (0 : Int32)) dX5_setShown_16 oI_0 ?_
    exact A_zret' rfl (Or.inl rfl) dX5_setShown_17
  · refine A_iload_n dX5_setShown_9 rfl ?_
    refine A_callSp (a_X5_isNumber (l := l) _ _ ) lc_X5_61 rfl (by decide) (Nat.le_of_ble_eq_true rfl) rfl dX5_setShown_10 ?_
    refine A_if_ne (tgt := 18) dX5_setShown_13 (by decide) (fun _ => ?_) (fun _ => ?_)
    · refine A_iconst (v := (0 : Int32)) dX5_setShown_16 oI_0 ?_
      exact A_zret' rfl (Or.inl rfl) dX5_setShown_17
    · refine A_aload_n dX5_setShown_18 rfl ?_
      refine A_getr lf_X5_26 rfl rfl dX5_setShown_19 ?_
      refine A_iload_n dX5_setShown_22 rfl ?_
      refine A_iload_n dX5_setShown_23 rfl ?_
      refine A_callSp (a_X5_counter (l := l) _ _ _ ) lc_X5_79 rfl (by decide) (Nat.le_of_ble_eq_true rfl) rfl dX5_setShown_24 ?_
      refine A_iload_n dX5_setShown_27 rfl ?_
      refine A_callSv (a_X1_put (S := SC) (l := l) _ _ _ _ _ rfl) lc_X5_65 rfl (by decide) (Nat.le_of_ble_eq_true rfl) rfl dX5_setShown_28 (fun q1 hq1 => ?_)
      refine A_iconst (v := (1 : Int32)) dX5_setShown_31 oI_1 ?_
      exact A_zret' rfl (Or.inr rfl) dX5_setShown_32
theorem a_X5_setShown {l : Launch}  (x1 : Int32) (x2 : Int32) (x3 : Int32) (M : xM)  : AM SC l yX5_setShown cX5_setShown 4 (some .boolean) 3 ki [xr 5, xi x1, xi x2, xi x3] M (F_X5_setShown  x1 x2 x3  M) :=
  AM.of (L0 := [some (xr 5), some (xi x1), some (xi x2), some (xi x3)]) (w_X5_setShown (l := l) x1 x2 x3  M ) (by decide +kernel) rfl (Nat.le_of_ble_eq_true rfl) ⟨rfl, rfl, rfl, rfl, trivial⟩
def P_X5_shownAt  (x1 : Int32) (x2 : Int32)   (M : xM) : Int32 :=
  (P_X1_at 26 96 (P_X5_counter x1 x2 M) M)
set_option maxRecDepth 100000 in
set_option maxHeartbeats 4000000 in
theorem w_X5_shownAt {l : Launch} (x1 : Int32) (x2 : Int32)     (M : xM)  : AW SC l RX5 cX5_shownAt 3 (some .int) 1 ki (some (P_X5_shownAt x1 x2  M, M)) 0 [some (xr 5), some (xi x1), some (xi x2)] [] M := by
  unfold P_X5_shownAt
  refine A_aload_n dX5_shownAt_0 rfl ?_
  refine A_getr lf_X5_26 rfl rfl dX5_shownAt_1 ?_
  refine A_iload_n dX5_shownAt_4 rfl ?_
  refine A_iload_n dX5_shownAt_5 rfl ?_
  refine A_callSp (a_X5_counter (l := l) _ _ _ ) lc_X5_79 rfl (by decide) (Nat.le_of_ble_eq_true rfl) rfl dX5_shownAt_6 ?_
  refine A_callSp (a_X1_at (S := SC) (l := l) _ _ _ _ rfl) lc_X5_83 rfl (by decide) (Nat.le_of_ble_eq_true rfl) rfl dX5_shownAt_9 ?_
  exact A_iret rfl dX5_shownAt_12
theorem a_X5_shownAt {l : Launch}  (x1 : Int32) (x2 : Int32) (M : xM)  : AM SC l yX5_shownAt cX5_shownAt 3 (some .int) 1 ki [xr 5, xi x1, xi x2] M (some (P_X5_shownAt  x1 x2  M, M)) :=
  AM.of (L0 := [some (xr 5), some (xi x1), some (xi x2)]) (w_X5_shownAt (l := l) x1 x2  M ) (by decide +kernel) rfl (Nat.le_of_ble_eq_true rfl) ⟨rfl, rfl, rfl, trivial⟩
def P_X5_faultsOf  (x1 : Int32)   (M : xM) : Int32 :=
  (P_X1_at 27 6 x1 M)
set_option maxRecDepth 100000 in
set_option maxHeartbeats 4000000 in
theorem w_X5_faultsOf {l : Launch} (x1 : Int32)     (M : xM)  : AW SC l RX5 cX5_faultsOf 2 (some .int) 1 ki (some (P_X5_faultsOf x1  M, M)) 0 [some (xr 5), some (xi x1)] [] M := by
  unfold P_X5_faultsOf
  refine A_aload_n dX5_faultsOf_0 rfl ?_
  refine A_getr lf_X5_29 rfl rfl dX5_faultsOf_1 ?_
  refine A_iload_n dX5_faultsOf_4 rfl ?_
  refine A_callSp (a_X1_at (S := SC) (l := l) _ _ _ _ rfl) lc_X5_83 rfl (by decide) (Nat.le_of_ble_eq_true rfl) rfl dX5_faultsOf_5 ?_
  exact A_iret rfl dX5_faultsOf_8
theorem a_X5_faultsOf {l : Launch}  (x1 : Int32) (M : xM)  : AM SC l yX5_faultsOf cX5_faultsOf 2 (some .int) 1 ki [xr 5, xi x1] M (some (P_X5_faultsOf  x1  M, M)) :=
  AM.of (L0 := [some (xr 5), some (xi x1)]) (w_X5_faultsOf (l := l) x1  M ) (by decide +kernel) rfl (Nat.le_of_ble_eq_true rfl) ⟨rfl, rfl, trivial⟩
def P_X5_canBe  (x1 : Int32) (x2 : Int32) (x3 : Int32)   (M : xM) : Int32 :=
  (if x1 = (0 : Int32) then
  (if (P_X0_isLever x2 M) = 0 then
  (0 : Int32)
  else
  (if (P_X1_within x3 (0 : Int32) (1 : Int32) M) = 0 then
  (0 : Int32)
  else
  (1 : Int32)))
  else
  (if x1 = (1 : Int32) then
  (if (P_X0_isLever x2 M) = 0 then
  (0 : Int32)
  else
  (if (P_X0_isLever x3 M) = 0 then
  (0 : Int32)
  else
  (if x2 = x3 then
  (0 : Int32)
  else
  (1 : Int32))))
  else
  (if x1 = (2 : Int32) then
  (P_X0_isLever x2 M)
  else
  (if x1 = (3 : Int32) then
  (if (P_X0_isLever x2 M) = 0 then
  (0 : Int32)
  else
  (if (P_X1_within x3 (1 : Int32) (999 : Int32) M) = 0 then
  (0 : Int32)
  else
  (1 : Int32)))
  else
  (if x1 = (4 : Int32) then
  (P_X0_isOffice x2 M)
  else
  (0 : Int32))))))
set_option maxRecDepth 100000 in
set_option maxHeartbeats 4000000 in
theorem w_X5_canBe {l : Launch} (x1 : Int32) (x2 : Int32) (x3 : Int32)     (M : xM)  : AW SC l RX5 cX5_canBe 4 (some .boolean) 2 ki (some (P_X5_canBe x1 x2 x3  M, M)) 0 [some (xr 5), some (xi x1), some (xi x2), some (xi x3)] [] M := by
  unfold P_X5_canBe
  refine A_iload_n dX5_canBe_0 rfl ?_
  refine AW.ite_p (fun e => ?_) (fun e0 => ?_)
  · refine A_tableIn (off := 35) (tgt := 36) dX5_canBe_1 (by rw [e]; decide) (by rw [e]; decide) (by rw [e]; rfl) (by decide) ?_
    refine A_aload_n dX5_canBe_36 rfl ?_
    refine A_getr lf_X5_47 rfl rfl dX5_canBe_37 ?_
    refine A_iload_n dX5_canBe_40 rfl ?_
    refine A_callVp (a_X0_isLever (l := l) _ _ ) lc_X5_72 rfl rfl (by decide) (Nat.le_of_ble_eq_true rfl) rfl dX5_canBe_41 ?_
    refine A_if_eq_p (tgt := 60) dX5_canBe_44 (by decide) (fun _ => ?_) (fun _ => ?_)
    · refine A_iconst (v := (0 : Int32)) dX5_canBe_60 oI_0 ?_
      exact A_zret' rfl (Or.inl rfl) dX5_canBe_61
    · refine A_iload_n dX5_canBe_47 rfl ?_
      refine A_iconst (v := (0 : Int32)) dX5_canBe_48 oI_0 ?_
      refine A_iconst (v := (1 : Int32)) dX5_canBe_49 oI_1 ?_
      refine A_callSp (a_X1_within (S := SC) (l := l) _ _ _ _ ) lc_X5_55 rfl (by decide) (Nat.le_of_ble_eq_true rfl) rfl dX5_canBe_50 ?_
      refine A_if_eq_p (tgt := 60) dX5_canBe_53 (by decide) (fun _ => ?_) (fun _ => ?_)
      · refine A_iconst (v := (0 : Int32)) dX5_canBe_60 oI_0 ?_
        exact A_zret' rfl (Or.inl rfl) dX5_canBe_61
      · refine A_iconst (v := (1 : Int32)) dX5_canBe_56 oI_1 ?_
        refine A_goto (tgt := 61) dX5_canBe_57 (by decide) ?_
        exact A_zret' rfl (Or.inr rfl) dX5_canBe_61
  · refine AW.ite_p (fun e => ?_) (fun e1 => ?_)
    · refine A_tableIn (off := 61) (tgt := 62) dX5_canBe_1 (by rw [e]; decide) (by rw [e]; decide) (by rw [e]; rfl) (by decide) ?_
      refine A_aload_n dX5_canBe_62 rfl ?_
      refine A_getr lf_X5_47 rfl rfl dX5_canBe_63 ?_
      refine A_iload_n dX5_canBe_66 rfl ?_
      refine A_callVp (a_X0_isLever (l := l) _ _ ) lc_X5_72 rfl rfl (by decide) (Nat.le_of_ble_eq_true rfl) rfl dX5_canBe_67 ?_
      refine A_if_eq_p (tgt := 93) dX5_canBe_70 (by decide) (fun _ => ?_) (fun _ => ?_)
      · refine A_iconst (v := (0 : Int32)) dX5_canBe_93 oI_0 ?_
        exact A_zret' rfl (Or.inl rfl) dX5_canBe_94
      · refine A_aload_n dX5_canBe_73 rfl ?_
        refine A_getr lf_X5_47 rfl rfl dX5_canBe_74 ?_
        refine A_iload_n dX5_canBe_77 rfl ?_
        refine A_callVp (a_X0_isLever (l := l) _ _ ) lc_X5_72 rfl rfl (by decide) (Nat.le_of_ble_eq_true rfl) rfl dX5_canBe_78 ?_
        refine A_if_eq_p (tgt := 93) dX5_canBe_81 (by decide) (fun _ => ?_) (fun _ => ?_)
        · refine A_iconst (v := (0 : Int32)) dX5_canBe_93 oI_0 ?_
          exact A_zret' rfl (Or.inl rfl) dX5_canBe_94
        · refine A_iload_n dX5_canBe_84 rfl ?_
          refine A_iload_n dX5_canBe_85 rfl ?_
          refine A_icmp_eq_p (tgt := 93) dX5_canBe_86 (by decide) (fun _ => ?_) (fun _ => ?_)
          · refine A_iconst (v := (0 : Int32)) dX5_canBe_93 oI_0 ?_
            exact A_zret' rfl (Or.inl rfl) dX5_canBe_94
          · refine A_iconst (v := (1 : Int32)) dX5_canBe_89 oI_1 ?_
            refine A_goto (tgt := 94) dX5_canBe_90 (by decide) ?_
            exact A_zret' rfl (Or.inr rfl) dX5_canBe_94
    · refine AW.ite_p (fun e => ?_) (fun e2 => ?_)
      · refine A_tableIn (off := 94) (tgt := 95) dX5_canBe_1 (by rw [e]; decide) (by rw [e]; decide) (by rw [e]; rfl) (by decide) ?_
        refine A_aload_n dX5_canBe_95 rfl ?_
        refine A_getr lf_X5_47 rfl rfl dX5_canBe_96 ?_
        refine A_iload_n dX5_canBe_99 rfl ?_
        refine A_callVp (a_X0_isLever (l := l) _ _ ) lc_X5_72 rfl rfl (by decide) (Nat.le_of_ble_eq_true rfl) rfl dX5_canBe_100 ?_
        exact A_zret' rfl (zP_X0_isLever _ _) dX5_canBe_103
      · refine AW.ite_p (fun e => ?_) (fun e3 => ?_)
        · refine A_tableIn (off := 103) (tgt := 104) dX5_canBe_1 (by rw [e]; decide) (by rw [e]; decide) (by rw [e]; rfl) (by decide) ?_
          refine A_aload_n dX5_canBe_104 rfl ?_
          refine A_getr lf_X5_47 rfl rfl dX5_canBe_105 ?_
          refine A_iload_n dX5_canBe_108 rfl ?_
          refine A_callVp (a_X0_isLever (l := l) _ _ ) lc_X5_72 rfl rfl (by decide) (Nat.le_of_ble_eq_true rfl) rfl dX5_canBe_109 ?_
          refine A_if_eq_p (tgt := 130) dX5_canBe_112 (by decide) (fun _ => ?_) (fun _ => ?_)
          · refine A_iconst (v := (0 : Int32)) dX5_canBe_130 oI_0 ?_
            exact A_zret' rfl (Or.inl rfl) dX5_canBe_131
          · refine A_iload_n dX5_canBe_115 rfl ?_
            refine A_iconst (v := (1 : Int32)) dX5_canBe_116 oI_1 ?_
            refine A_sipush (v := (999 : Int32)) dX5_canBe_117 oS_999 ?_
            refine A_callSp (a_X1_within (S := SC) (l := l) _ _ _ _ ) lc_X5_55 rfl (by decide) (Nat.le_of_ble_eq_true rfl) rfl dX5_canBe_120 ?_
            refine A_if_eq_p (tgt := 130) dX5_canBe_123 (by decide) (fun _ => ?_) (fun _ => ?_)
            · refine A_iconst (v := (0 : Int32)) dX5_canBe_130 oI_0 ?_
              exact A_zret' rfl (Or.inl rfl) dX5_canBe_131
            · refine A_iconst (v := (1 : Int32)) dX5_canBe_126 oI_1 ?_
              refine A_goto (tgt := 131) dX5_canBe_127 (by decide) ?_
              exact A_zret' rfl (Or.inr rfl) dX5_canBe_131
        · refine AW.ite_p (fun e => ?_) (fun e4 => ?_)
          · refine A_tableIn (off := 131) (tgt := 132) dX5_canBe_1 (by rw [e]; decide) (by rw [e]; decide) (by rw [e]; rfl) (by decide) ?_
            refine A_aload_n dX5_canBe_132 rfl ?_
            refine A_getr lf_X5_47 rfl rfl dX5_canBe_133 ?_
            refine A_iload_n dX5_canBe_136 rfl ?_
            refine A_callVp (a_X0_isOffice (l := l) _ _ ) lc_X5_94 rfl rfl (by decide) (Nat.le_of_ble_eq_true rfl) rfl dX5_canBe_137 ?_
            exact A_zret' rfl (zP_X0_isOffice _ _) dX5_canBe_140
          · refine A_tableOut (tgt := 141) dX5_canBe_1 (by have z0 := xne (k := 0) (by decide) e0; have z1 := xne (k := 1) (by decide) e1; have z2 := xne (k := 2) (by decide) e2; have z3 := xne (k := 3) (by decide) e3; have z4 := xne (k := 4) (by decide) e4; omega) (by decide) ?_
            refine A_iconst (v := (0 : Int32)) dX5_canBe_141 oI_0 ?_
            exact A_zret' rfl (Or.inl rfl) dX5_canBe_142
theorem a_X5_canBe {l : Launch}  (x1 : Int32) (x2 : Int32) (x3 : Int32) (M : xM)  : AM SC l yX5_canBe cX5_canBe 4 (some .boolean) 2 ki [xr 5, xi x1, xi x2, xi x3] M (some (P_X5_canBe  x1 x2 x3  M, M)) :=
  AM.of (L0 := [some (xr 5), some (xi x1), some (xi x2), some (xi x3)]) (w_X5_canBe (l := l) x1 x2 x3  M ) (by decide +kernel) rfl (Nat.le_of_ble_eq_true rfl) ⟨rfl, rfl, rfl, rfl, trivial⟩
theorem zP_X5_canBe (x1 : Int32) (x2 : Int32) (x3 : Int32) (M : xM) : P_X5_canBe x1 x2 x3 M = 0 ∨ P_X5_canBe x1 x2 x3 M = 1 := by
  unfold P_X5_canBe
  repeat' split
  all_goals first | decide | with_reducible exact zP_X0_isLever _ _ | with_reducible exact zP_X1_within _ _ _ _ | with_reducible exact zP_X0_isOffice _ _
def F_X5_addFault  (x1 : Int32) (x2 : Int32) (x3 : Int32) (x4 : Int32)   (M : xM) : Option (Int32 × xM) :=
  (if (P_X5_isMachine x1 M) = 0 then
  some ((-1 : Int32), M)
  else
  (if (8 : Int32) ≤ (P_X5_faultsOf x1 M) then
  some ((-1 : Int32), M)
  else
  (if (P_X5_canBe x2 x3 x4 M) = 0 then
  some ((-1 : Int32), M)
  else
  (F_X1_put 28 48 ((x1 * (8 : Int32)) + (P_X5_faultsOf x1 M)) x2 M).bind fun q1 =>
  (F_X1_put 29 48 ((x1 * (8 : Int32)) + (P_X5_faultsOf x1 M)) x3 q1).bind fun q2 =>
  (F_X1_put 30 48 ((x1 * (8 : Int32)) + (P_X5_faultsOf x1 M)) x4 q2).bind fun q3 =>
  (F_X1_put 27 6 x1 ((P_X5_faultsOf x1 M) + (1 : Int32)) q3).bind fun q4 =>
  some ((P_X5_faultsOf x1 M), q4))))
set_option maxRecDepth 100000 in
set_option maxHeartbeats 4000000 in
theorem w_X5_addFault {l : Launch} (x1 : Int32) (x2 : Int32) (x3 : Int32) (x4 : Int32)     (M : xM)  : AW SC l RX5 cX5_addFault 7 (some .int) 3 ki (F_X5_addFault x1 x2 x3 x4  M) 0 [some (xr 5), some (xi x1), some (xi x2), some (xi x3), some (xi x4), none, none] [] M := by
  unfold F_X5_addFault
  refine A_aload_n dX5_addFault_0 rfl ?_
  refine A_iload_n dX5_addFault_1 rfl ?_
  refine A_callVp (a_X5_isMachine (l := l) _ _ ) lc_X5_69 rfl rfl (by decide) (Nat.le_of_ble_eq_true rfl) rfl dX5_addFault_2 ?_
  refine A_if_eq (tgt := 29) dX5_addFault_5 (by decide) (fun _ => ?_) (fun _ => ?_)
  · refine A_iconst (v := (-1 : Int32)) dX5_addFault_29 oI_m1 ?_
    exact A_iret rfl dX5_addFault_30
  · refine A_aload_n dX5_addFault_8 rfl ?_
    refine A_iload_n dX5_addFault_9 rfl ?_
    refine A_callVp (a_X5_faultsOf (l := l) _ _ ) lc_X5_87 rfl rfl (by decide) (Nat.le_of_ble_eq_true rfl) rfl dX5_addFault_10 ?_
    refine A_bipush (v := (8 : Int32)) dX5_addFault_13 oB_8 ?_
    refine A_icmp_ge (tgt := 29) dX5_addFault_15 (by decide) (fun _ => ?_) (fun _ => ?_)
    · refine A_iconst (v := (-1 : Int32)) dX5_addFault_29 oI_m1 ?_
      exact A_iret rfl dX5_addFault_30
    · refine A_aload_n dX5_addFault_18 rfl ?_
      refine A_iload_n dX5_addFault_19 rfl ?_
      refine A_iload_n dX5_addFault_20 rfl ?_
      refine A_iload dX5_addFault_21 rfl ?_
      refine A_callVp (a_X5_canBe (l := l) _ _ _ _ ) lc_X5_91 rfl rfl (by decide) (Nat.le_of_ble_eq_true rfl) rfl dX5_addFault_23 ?_
      refine A_if_ne (tgt := 31) dX5_addFault_26 (by decide) (fun _ => ?_) (fun _ => ?_)
      · refine A_iconst (v := (-1 : Int32)) dX5_addFault_29 oI_m1 ?_
        exact A_iret rfl dX5_addFault_30
      · refine A_aload_n dX5_addFault_31 rfl ?_
        refine A_iload_n dX5_addFault_32 rfl ?_
        refine A_callVp (a_X5_faultsOf (l := l) _ _ ) lc_X5_87 rfl rfl (by decide) (Nat.le_of_ble_eq_true rfl) rfl dX5_addFault_33 ?_
        refine A_istore dX5_addFault_36 (Nat.le_of_ble_eq_true rfl) rfl ?_
        refine A_iload_n dX5_addFault_38 rfl ?_
        refine A_bipush (v := (8 : Int32)) dX5_addFault_39 oB_8 ?_
        refine A_imul dX5_addFault_41 ?_
        refine A_iload dX5_addFault_42 rfl ?_
        refine A_iadd dX5_addFault_44 ?_
        refine A_istore dX5_addFault_45 (Nat.le_of_ble_eq_true rfl) rfl ?_
        refine A_aload_n dX5_addFault_47 rfl ?_
        refine A_getr lf_X5_32 rfl rfl dX5_addFault_48 ?_
        refine A_iload dX5_addFault_51 rfl ?_
        refine A_iload_n dX5_addFault_53 rfl ?_
        refine A_callSv (a_X1_put (S := SC) (l := l) _ _ _ _ _ rfl) lc_X5_65 rfl (by decide) (Nat.le_of_ble_eq_true rfl) rfl dX5_addFault_54 (fun q1 hq1 => ?_)
        refine A_aload_n dX5_addFault_57 rfl ?_
        refine A_getr lf_X5_35 rfl rfl dX5_addFault_58 ?_
        refine A_iload dX5_addFault_61 rfl ?_
        refine A_iload_n dX5_addFault_63 rfl ?_
        refine A_callSv (a_X1_put (S := SC) (l := l) _ _ _ _ _ rfl) lc_X5_65 rfl (by decide) (Nat.le_of_ble_eq_true rfl) rfl dX5_addFault_64 (fun q2 hq2 => ?_)
        refine A_aload_n dX5_addFault_67 rfl ?_
        refine A_getr lf_X5_38 rfl rfl dX5_addFault_68 ?_
        refine A_iload dX5_addFault_71 rfl ?_
        refine A_iload dX5_addFault_73 rfl ?_
        refine A_callSv (a_X1_put (S := SC) (l := l) _ _ _ _ _ rfl) lc_X5_65 rfl (by decide) (Nat.le_of_ble_eq_true rfl) rfl dX5_addFault_75 (fun q3 hq3 => ?_)
        refine A_aload_n dX5_addFault_78 rfl ?_
        refine A_getr lf_X5_29 rfl rfl dX5_addFault_79 ?_
        refine A_iload_n dX5_addFault_82 rfl ?_
        refine A_iload dX5_addFault_83 rfl ?_
        refine A_iconst (v := (1 : Int32)) dX5_addFault_85 oI_1 ?_
        refine A_iadd dX5_addFault_86 ?_
        refine A_callSv (a_X1_put (S := SC) (l := l) _ _ _ _ _ rfl) lc_X5_65 rfl (by decide) (Nat.le_of_ble_eq_true rfl) rfl dX5_addFault_87 (fun q4 hq4 => ?_)
        refine A_iload dX5_addFault_90 rfl ?_
        exact A_iret rfl dX5_addFault_92
theorem a_X5_addFault {l : Launch}  (x1 : Int32) (x2 : Int32) (x3 : Int32) (x4 : Int32) (M : xM)  : AM SC l yX5_addFault cX5_addFault 7 (some .int) 3 ki [xr 5, xi x1, xi x2, xi x3, xi x4] M (F_X5_addFault  x1 x2 x3 x4  M) :=
  AM.of (L0 := [some (xr 5), some (xi x1), some (xi x2), some (xi x3), some (xi x4), none, none]) (w_X5_addFault (l := l) x1 x2 x3 x4  M ) (by decide +kernel) rfl (Nat.le_of_ble_eq_true rfl) ⟨rfl, rfl, rfl, rfl, rfl, trivial⟩
def P_X5_kindOf  (x1 : Int32) (x2 : Int32)   (M : xM) : Int32 :=
  (P_X1_at 28 48 ((x1 * (8 : Int32)) + x2) M)
set_option maxRecDepth 100000 in
set_option maxHeartbeats 4000000 in
theorem w_X5_kindOf {l : Launch} (x1 : Int32) (x2 : Int32)     (M : xM)  : AW SC l RX5 cX5_kindOf 3 (some .int) 1 ki (some (P_X5_kindOf x1 x2  M, M)) 0 [some (xr 5), some (xi x1), some (xi x2)] [] M := by
  unfold P_X5_kindOf
  refine A_aload_n dX5_kindOf_0 rfl ?_
  refine A_getr lf_X5_32 rfl rfl dX5_kindOf_1 ?_
  refine A_iload_n dX5_kindOf_4 rfl ?_
  refine A_bipush (v := (8 : Int32)) dX5_kindOf_5 oB_8 ?_
  refine A_imul dX5_kindOf_7 ?_
  refine A_iload_n dX5_kindOf_8 rfl ?_
  refine A_iadd dX5_kindOf_9 ?_
  refine A_callSp (a_X1_at (S := SC) (l := l) _ _ _ _ rfl) lc_X5_83 rfl (by decide) (Nat.le_of_ble_eq_true rfl) rfl dX5_kindOf_10 ?_
  exact A_iret rfl dX5_kindOf_13
theorem a_X5_kindOf {l : Launch}  (x1 : Int32) (x2 : Int32) (M : xM)  : AM SC l yX5_kindOf cX5_kindOf 3 (some .int) 1 ki [xr 5, xi x1, xi x2] M (some (P_X5_kindOf  x1 x2  M, M)) :=
  AM.of (L0 := [some (xr 5), some (xi x1), some (xi x2)]) (w_X5_kindOf (l := l) x1 x2  M ) (by decide +kernel) rfl (Nat.le_of_ble_eq_true rfl) ⟨rfl, rfl, rfl, trivial⟩
def P_X5_firstOf  (x1 : Int32) (x2 : Int32)   (M : xM) : Int32 :=
  (P_X1_at 29 48 ((x1 * (8 : Int32)) + x2) M)
set_option maxRecDepth 100000 in
set_option maxHeartbeats 4000000 in
theorem w_X5_firstOf {l : Launch} (x1 : Int32) (x2 : Int32)     (M : xM)  : AW SC l RX5 cX5_firstOf 3 (some .int) 1 ki (some (P_X5_firstOf x1 x2  M, M)) 0 [some (xr 5), some (xi x1), some (xi x2)] [] M := by
  unfold P_X5_firstOf
  refine A_aload_n dX5_firstOf_0 rfl ?_
  refine A_getr lf_X5_35 rfl rfl dX5_firstOf_1 ?_
  refine A_iload_n dX5_firstOf_4 rfl ?_
  refine A_bipush (v := (8 : Int32)) dX5_firstOf_5 oB_8 ?_
  refine A_imul dX5_firstOf_7 ?_
  refine A_iload_n dX5_firstOf_8 rfl ?_
  refine A_iadd dX5_firstOf_9 ?_
  refine A_callSp (a_X1_at (S := SC) (l := l) _ _ _ _ rfl) lc_X5_83 rfl (by decide) (Nat.le_of_ble_eq_true rfl) rfl dX5_firstOf_10 ?_
  exact A_iret rfl dX5_firstOf_13
theorem a_X5_firstOf {l : Launch}  (x1 : Int32) (x2 : Int32) (M : xM)  : AM SC l yX5_firstOf cX5_firstOf 3 (some .int) 1 ki [xr 5, xi x1, xi x2] M (some (P_X5_firstOf  x1 x2  M, M)) :=
  AM.of (L0 := [some (xr 5), some (xi x1), some (xi x2)]) (w_X5_firstOf (l := l) x1 x2  M ) (by decide +kernel) rfl (Nat.le_of_ble_eq_true rfl) ⟨rfl, rfl, rfl, trivial⟩
def P_X5_secondOf  (x1 : Int32) (x2 : Int32)   (M : xM) : Int32 :=
  (P_X1_at 30 48 ((x1 * (8 : Int32)) + x2) M)
set_option maxRecDepth 100000 in
set_option maxHeartbeats 4000000 in
theorem w_X5_secondOf {l : Launch} (x1 : Int32) (x2 : Int32)     (M : xM)  : AW SC l RX5 cX5_secondOf 3 (some .int) 1 ki (some (P_X5_secondOf x1 x2  M, M)) 0 [some (xr 5), some (xi x1), some (xi x2)] [] M := by
  unfold P_X5_secondOf
  refine A_aload_n dX5_secondOf_0 rfl ?_
  refine A_getr lf_X5_38 rfl rfl dX5_secondOf_1 ?_
  refine A_iload_n dX5_secondOf_4 rfl ?_
  refine A_bipush (v := (8 : Int32)) dX5_secondOf_5 oB_8 ?_
  refine A_imul dX5_secondOf_7 ?_
  refine A_iload_n dX5_secondOf_8 rfl ?_
  refine A_iadd dX5_secondOf_9 ?_
  refine A_callSp (a_X1_at (S := SC) (l := l) _ _ _ _ rfl) lc_X5_83 rfl (by decide) (Nat.le_of_ble_eq_true rfl) rfl dX5_secondOf_10 ?_
  exact A_iret rfl dX5_secondOf_13
theorem a_X5_secondOf {l : Launch}  (x1 : Int32) (x2 : Int32) (M : xM)  : AM SC l yX5_secondOf cX5_secondOf 3 (some .int) 1 ki [xr 5, xi x1, xi x2] M (some (P_X5_secondOf  x1 x2  M, M)) :=
  AM.of (L0 := [some (xr 5), some (xi x1), some (xi x2)]) (w_X5_secondOf (l := l) x1 x2  M ) (by decide +kernel) rfl (Nat.le_of_ble_eq_true rfl) ⟨rfl, rfl, rfl, trivial⟩
def P_X5_wheel  (x0 : Int32)   (M : xM) : Int32 :=
  (if x0 = 0 then
  (10 : Int32)
  else
  (100 : Int32))
set_option maxRecDepth 100000 in
set_option maxHeartbeats 4000000 in
theorem w_X5_wheel {l : Launch} (x0 : Int32)     (M : xM)  : AW SC l RX5 cX5_wheel 1 (some .int) 0 ki (some (P_X5_wheel x0  M, M)) 0 [some (xi x0)] [] M := by
  unfold P_X5_wheel
  refine A_iload_n dX5_wheel_0 rfl ?_
  refine A_if_ne_p (tgt := 9) dX5_wheel_1 (by decide) (fun _ => ?_) (fun _ => ?_)
  · refine A_bipush (v := (10 : Int32)) dX5_wheel_4 oB_10 ?_
    refine A_goto (tgt := 11) dX5_wheel_6 (by decide) ?_
    exact A_iret rfl dX5_wheel_11
  · refine A_bipush (v := (100 : Int32)) dX5_wheel_9 oB_100 ?_
    exact A_iret rfl dX5_wheel_11
theorem a_X5_wheel {l : Launch}  (x0 : Int32) (M : xM)  : AM SC l yX5_wheel cX5_wheel 1 (some .int) 0 ki [xi x0] M (some (P_X5_wheel  x0  M, M)) :=
  AM.of (L0 := [some (xi x0)]) (w_X5_wheel (l := l) x0  M ) (by decide +kernel) rfl (Nat.le_of_ble_eq_true rfl) ⟨rfl, trivial⟩
def F_X5_addRecount  (x1 : Int32) (x2 : Int32) (x3 : Int32)   (M : xM) : Option (Int32 × xM) :=
  (if (P_X5_isCounter x1 x2 M) = 0 then
  some ((-1 : Int32), M)
  else
  (if (P_X5_isNumber x3 M) = 0 then
  some ((-1 : Int32), M)
  else
  (if (P_X1_at 31 96 (P_X5_counter x1 x2 M) M) < (8 : Int32) then
  (F_X1_put 32 768 (((P_X5_counter x1 x2 M) * (8 : Int32)) + (P_X1_at 31 96 (P_X5_counter x1 x2 M) M)) x3 M).bind fun q1 =>
  (F_X1_put 31 96 (P_X5_counter x1 x2 M) ((P_X1_at 31 96 (P_X5_counter x1 x2 M) M) + (1 : Int32)) q1).bind fun q2 =>
  some (((P_X1_at 31 96 (P_X5_counter x1 x2 M) M) + (1 : Int32)), q2)
  else
  some ((-1 : Int32), M))))
set_option maxRecDepth 100000 in
set_option maxHeartbeats 4000000 in
theorem w_X5_addRecount {l : Launch} (x1 : Int32) (x2 : Int32) (x3 : Int32)     (M : xM)  : AW SC l RX5 cX5_addRecount 6 (some .int) 3 ki (F_X5_addRecount x1 x2 x3  M) 0 [some (xr 5), some (xi x1), some (xi x2), some (xi x3), none, none] [] M := by
  unfold F_X5_addRecount
  refine A_aload_n dX5_addRecount_0 rfl ?_
  refine A_iload_n dX5_addRecount_1 rfl ?_
  refine A_iload_n dX5_addRecount_2 rfl ?_
  refine A_callVp (a_X5_isCounter (l := l) _ _ _ ) lc_X5_75 rfl rfl (by decide) (Nat.le_of_ble_eq_true rfl) rfl dX5_addRecount_3 ?_
  refine A_if_eq (tgt := 16) dX5_addRecount_6 (by decide) (fun _ => ?_) (fun _ => ?_)
  · refine A_iconst (v := (-1 : Int32)) dX5_addRecount_16 oI_m1 ?_
    exact A_iret rfl dX5_addRecount_17
  · refine A_iload_n dX5_addRecount_9 rfl ?_
    refine A_callSp (a_X5_isNumber (l := l) _ _ ) lc_X5_61 rfl (by decide) (Nat.le_of_ble_eq_true rfl) rfl dX5_addRecount_10 ?_
    refine A_if_ne (tgt := 18) dX5_addRecount_13 (by decide) (fun _ => ?_) (fun _ => ?_)
    · refine A_iconst (v := (-1 : Int32)) dX5_addRecount_16 oI_m1 ?_
      exact A_iret rfl dX5_addRecount_17
    · refine A_iload_n dX5_addRecount_18 rfl ?_
      refine A_iload_n dX5_addRecount_19 rfl ?_
      refine A_callSp (a_X5_counter (l := l) _ _ _ ) lc_X5_79 rfl (by decide) (Nat.le_of_ble_eq_true rfl) rfl dX5_addRecount_20 ?_
      refine A_istore dX5_addRecount_23 (Nat.le_of_ble_eq_true rfl) rfl ?_
      refine A_aload_n dX5_addRecount_25 rfl ?_
      refine A_getr lf_X5_41 rfl rfl dX5_addRecount_26 ?_
      refine A_iload dX5_addRecount_29 rfl ?_
      refine A_callSp (a_X1_at (S := SC) (l := l) _ _ _ _ rfl) lc_X5_83 rfl (by decide) (Nat.le_of_ble_eq_true rfl) rfl dX5_addRecount_31 ?_
      refine A_istore dX5_addRecount_34 (Nat.le_of_ble_eq_true rfl) rfl ?_
      refine A_iload dX5_addRecount_36 rfl ?_
      refine A_bipush (v := (8 : Int32)) dX5_addRecount_38 oB_8 ?_
      refine A_icmp_lt (tgt := 45) dX5_addRecount_40 (by decide) (fun _ => ?_) (fun _ => ?_)
      · refine A_aload_n dX5_addRecount_45 rfl ?_
        refine A_getr lf_X5_44 rfl rfl dX5_addRecount_46 ?_
        refine A_iload dX5_addRecount_49 rfl ?_
        refine A_bipush (v := (8 : Int32)) dX5_addRecount_51 oB_8 ?_
        refine A_imul dX5_addRecount_53 ?_
        refine A_iload dX5_addRecount_54 rfl ?_
        refine A_iadd dX5_addRecount_56 ?_
        refine A_iload_n dX5_addRecount_57 rfl ?_
        refine A_callSv (a_X1_put (S := SC) (l := l) _ _ _ _ _ rfl) lc_X5_65 rfl (by decide) (Nat.le_of_ble_eq_true rfl) rfl dX5_addRecount_58 (fun q1 hq1 => ?_)
        refine A_aload_n dX5_addRecount_61 rfl ?_
        refine A_getr lf_X5_41 rfl rfl dX5_addRecount_62 ?_
        refine A_iload dX5_addRecount_65 rfl ?_
        refine A_iload dX5_addRecount_67 rfl ?_
        refine A_iconst (v := (1 : Int32)) dX5_addRecount_69 oI_1 ?_
        refine A_iadd dX5_addRecount_70 ?_
        refine A_callSv (a_X1_put (S := SC) (l := l) _ _ _ _ _ rfl) lc_X5_65 rfl (by decide) (Nat.le_of_ble_eq_true rfl) rfl dX5_addRecount_71 (fun q2 hq2 => ?_)
        refine A_iload dX5_addRecount_74 rfl ?_
        refine A_iconst (v := (1 : Int32)) dX5_addRecount_76 oI_1 ?_
        refine A_iadd dX5_addRecount_77 ?_
        exact A_iret rfl dX5_addRecount_78
      · refine A_iconst (v := (-1 : Int32)) dX5_addRecount_43 oI_m1 ?_
        exact A_iret rfl dX5_addRecount_44
theorem a_X5_addRecount {l : Launch}  (x1 : Int32) (x2 : Int32) (x3 : Int32) (M : xM)  : AM SC l yX5_addRecount cX5_addRecount 6 (some .int) 3 ki [xr 5, xi x1, xi x2, xi x3] M (F_X5_addRecount  x1 x2 x3  M) :=
  AM.of (L0 := [some (xr 5), some (xi x1), some (xi x2), some (xi x3), none, none]) (w_X5_addRecount (l := l) x1 x2 x3  M ) (by decide +kernel) rfl (Nat.le_of_ble_eq_true rfl) ⟨rfl, rfl, rfl, rfl, trivial⟩
def P_X5_keptRecount  (x1 : Int32) (x2 : Int32) (x3 : Int32)   (M : xM) : Int32 :=
  (if (P_X5_isCounter x1 x2 M) = 0 then
  (-1 : Int32)
  else
  (if (P_X1_within x3 (0 : Int32) ((P_X1_at 31 96 (P_X5_counter x1 x2 M) M) - (1 : Int32)) M) = 0 then
  (-1 : Int32)
  else
  (P_X1_at 32 768 (((P_X5_counter x1 x2 M) * (8 : Int32)) + x3) M)))
set_option maxRecDepth 100000 in
set_option maxHeartbeats 4000000 in
theorem w_X5_keptRecount {l : Launch} (x1 : Int32) (x2 : Int32) (x3 : Int32)     (M : xM)  : AW SC l RX5 cX5_keptRecount 6 (some .int) 3 ki (some (P_X5_keptRecount x1 x2 x3  M, M)) 0 [some (xr 5), some (xi x1), some (xi x2), some (xi x3), none, none] [] M := by
  unfold P_X5_keptRecount
  refine A_aload_n dX5_keptRecount_0 rfl ?_
  refine A_iload_n dX5_keptRecount_1 rfl ?_
  refine A_iload_n dX5_keptRecount_2 rfl ?_
  refine A_callVp (a_X5_isCounter (l := l) _ _ _ ) lc_X5_75 rfl rfl (by decide) (Nat.le_of_ble_eq_true rfl) rfl dX5_keptRecount_3 ?_
  refine A_if_ne_p (tgt := 11) dX5_keptRecount_6 (by decide) (fun _ => ?_) (fun _ => ?_)
  · refine A_iconst (v := (-1 : Int32)) dX5_keptRecount_9 oI_m1 ?_
    exact A_iret rfl dX5_keptRecount_10
  · refine A_iload_n dX5_keptRecount_11 rfl ?_
    refine A_iload_n dX5_keptRecount_12 rfl ?_
    refine A_callSp (a_X5_counter (l := l) _ _ _ ) lc_X5_79 rfl (by decide) (Nat.le_of_ble_eq_true rfl) rfl dX5_keptRecount_13 ?_
    refine A_istore dX5_keptRecount_16 (Nat.le_of_ble_eq_true rfl) rfl ?_
    refine A_iload_n dX5_keptRecount_18 rfl ?_
    refine A_iconst (v := (0 : Int32)) dX5_keptRecount_19 oI_0 ?_
    refine A_aload_n dX5_keptRecount_20 rfl ?_
    refine A_getr lf_X5_41 rfl rfl dX5_keptRecount_21 ?_
    refine A_iload dX5_keptRecount_24 rfl ?_
    refine A_callSp (a_X1_at (S := SC) (l := l) _ _ _ _ rfl) lc_X5_83 rfl (by decide) (Nat.le_of_ble_eq_true rfl) rfl dX5_keptRecount_26 ?_
    refine A_iconst (v := (1 : Int32)) dX5_keptRecount_29 oI_1 ?_
    refine A_isub dX5_keptRecount_30 ?_
    refine A_callSp (a_X1_within (S := SC) (l := l) _ _ _ _ ) lc_X5_55 rfl (by decide) (Nat.le_of_ble_eq_true rfl) rfl dX5_keptRecount_31 ?_
    refine A_istore dX5_keptRecount_34 (Nat.le_of_ble_eq_true rfl) rfl ?_
    refine A_iload dX5_keptRecount_36 rfl ?_
    refine A_if_eq_p (tgt := 58) dX5_keptRecount_38 (by decide) (fun _ => ?_) (fun _ => ?_)
    · refine A_iconst (v := (-1 : Int32)) dX5_keptRecount_58 oI_m1 ?_
      exact A_iret rfl dX5_keptRecount_59
    · refine A_aload_n dX5_keptRecount_41 rfl ?_
      refine A_getr lf_X5_44 rfl rfl dX5_keptRecount_42 ?_
      refine A_iload dX5_keptRecount_45 rfl ?_
      refine A_bipush (v := (8 : Int32)) dX5_keptRecount_47 oB_8 ?_
      refine A_imul dX5_keptRecount_49 ?_
      refine A_iload_n dX5_keptRecount_50 rfl ?_
      refine A_iadd dX5_keptRecount_51 ?_
      refine A_callSp (a_X1_at (S := SC) (l := l) _ _ _ _ rfl) lc_X5_83 rfl (by decide) (Nat.le_of_ble_eq_true rfl) rfl dX5_keptRecount_52 ?_
      refine A_goto (tgt := 59) dX5_keptRecount_55 (by decide) ?_
      exact A_iret rfl dX5_keptRecount_59
theorem a_X5_keptRecount {l : Launch}  (x1 : Int32) (x2 : Int32) (x3 : Int32) (M : xM)  : AM SC l yX5_keptRecount cX5_keptRecount 6 (some .int) 3 ki [xr 5, xi x1, xi x2, xi x3] M (some (P_X5_keptRecount  x1 x2 x3  M, M)) :=
  AM.of (L0 := [some (xr 5), some (xi x1), some (xi x2), some (xi x3), none, none]) (w_X5_keptRecount (l := l) x1 x2 x3  M ) (by decide +kernel) rfl (Nat.le_of_ble_eq_true rfl) ⟨rfl, rfl, rfl, rfl, trivial⟩
def F_X5_changes_b72 (fu : Nat)  (x1 : Int32) (x2 : Int32) (k33 : Int32 → Int32 → Int32 → Int32 → xM → Option (Int32 × xM)) (x3 : Int32) (x5 : Int32) (x6 : Int32) (x7 : Int32) (M : xM) : Option (Int32 × xM) :=
  k33 x3 x7 x5 (x6 + (1 : Int32)) M
set_option maxRecDepth 100000 in
set_option maxHeartbeats 4000000 in
theorem a_X5_changes_b72 {l : Launch} (fu : Nat) (x1 : Int32) (x2 : Int32)  {k33 : Int32 → Int32 → Int32 → Int32 → xM → Option (Int32 × xM)} (hk33 : ∀ (b0 : Int32) (b1 : Int32) (b2 : Int32) (b3 : Int32) (M : xM), AW SC l RX5 cX5_changes 8 (some .int) 3 ki (k33 b0 b1 b2 b3 M) 33 [some (xr 5), none, none, some (xi b0), some (xi b1), some (xi b2), some (xi b3), none] [] M) (x3 : Int32) (x5 : Int32) (x6 : Int32) (x7 : Int32) (M : xM)  : AW SC l RX5 cX5_changes 8 (some .int) 3 ki (F_X5_changes_b72 fu x1 x2 k33 x3 x5 x6 x7 M) 72 [some (xr 5), none, none, some (xi x3), none, some (xi x5), some (xi x6), some (xi x7)] [] M := by
  unfold F_X5_changes_b72
  refine A_iload dX5_changes_72 rfl ?_
  refine A_istore dX5_changes_74 (Nat.le_of_ble_eq_true rfl) rfl ?_
  refine A_iinc dX5_changes_76 rfl oI_1 (Nat.le_of_ble_eq_true rfl) rfl ?_
  refine A_goto (tgt := 33) dX5_changes_79 (by decide) ?_
  exact (hk33 _ _ _ _ _).sub ⟨rfl, rfl, rfl, rfl, rfl, trivial⟩
def F_X5_changes_b33 (fu : Nat)  (x1 : Int32) (x2 : Int32)  : Nat → Int32 → Int32 → Int32 → Int32 → xM → Option (Int32 × xM)
  | 0, _, _, _, _, _ => none
  | n + 1, x3, x4, x5, x6, M =>
    (if (P_X1_at 31 96 x3 M) ≤ x6 then
    some (x5, M)
    else
    (if (P_X1_at 32 768 ((x3 * (8 : Int32)) + x6) M) = x4 then
    F_X5_changes_b72 fu x1 x2 (F_X5_changes_b33 fu x1 x2 n) x3 x5 x6 (P_X1_at 32 768 ((x3 * (8 : Int32)) + x6) M) M
    else
    F_X5_changes_b72 fu x1 x2 (F_X5_changes_b33 fu x1 x2 n) x3 (x5 + (1 : Int32)) x6 (P_X1_at 32 768 ((x3 * (8 : Int32)) + x6) M) M))
set_option maxRecDepth 100000 in
set_option maxHeartbeats 4000000 in
theorem a_X5_changes_b33 {l : Launch} (fu : Nat) (x1 : Int32) (x2 : Int32)    : ∀ (n : Nat) (x3 : Int32) (x4 : Int32) (x5 : Int32) (x6 : Int32) (M : xM), AW SC l RX5 cX5_changes 8 (some .int) 3 ki (F_X5_changes_b33 fu x1 x2 n x3 x4 x5 x6 M) 33 [some (xr 5), none, none, some (xi x3), some (xi x4), some (xi x5), some (xi x6), none] [] M := by
  intro n
  induction n with
  | zero =>
    intro x3 x4 x5 x6 M
    exact AW.none
  | succ n ih =>
    intro x3 x4 x5 x6 M
    rw [F_X5_changes_b33]
    refine A_iload dX5_changes_33 rfl ?_
    refine A_aload_n dX5_changes_35 rfl ?_
    refine A_getr lf_X5_41 rfl rfl dX5_changes_36 ?_
    refine A_iload_n dX5_changes_39 rfl ?_
    refine A_callSp (a_X1_at (S := SC) (l := l) _ _ _ _ rfl) lc_X5_83 rfl (by decide) (Nat.le_of_ble_eq_true rfl) rfl dX5_changes_40 ?_
    refine A_icmp_ge (tgt := 82) dX5_changes_43 (by decide) (fun _ => ?_) (fun _ => ?_)
    · refine A_iload dX5_changes_82 rfl ?_
      exact A_iret rfl dX5_changes_84
    · refine A_aload_n dX5_changes_46 rfl ?_
      refine A_getr lf_X5_44 rfl rfl dX5_changes_47 ?_
      refine A_iload_n dX5_changes_50 rfl ?_
      refine A_bipush (v := (8 : Int32)) dX5_changes_51 oB_8 ?_
      refine A_imul dX5_changes_53 ?_
      refine A_iload dX5_changes_54 rfl ?_
      refine A_iadd dX5_changes_56 ?_
      refine A_callSp (a_X1_at (S := SC) (l := l) _ _ _ _ rfl) lc_X5_83 rfl (by decide) (Nat.le_of_ble_eq_true rfl) rfl dX5_changes_57 ?_
      refine A_istore dX5_changes_60 (Nat.le_of_ble_eq_true rfl) rfl ?_
      refine A_iload dX5_changes_62 rfl ?_
      refine A_iload dX5_changes_64 rfl ?_
      refine A_icmp_eq (tgt := 72) dX5_changes_66 (by decide) (fun _ => ?_) (fun _ => ?_)
      · exact (a_X5_changes_b72 (l := l) fu x1 x2 ih _ _ _ _ _ ).sub ⟨rfl, rfl, rfl, rfl, rfl, trivial⟩
      · refine A_iinc dX5_changes_69 rfl oI_1 (Nat.le_of_ble_eq_true rfl) rfl ?_
        exact (a_X5_changes_b72 (l := l) fu x1 x2 ih _ _ _ _ _ ).sub ⟨rfl, rfl, rfl, rfl, rfl, trivial⟩
def F_X5_changes (fu : Nat)  (x1 : Int32) (x2 : Int32)   (M : xM) : Option (Int32 × xM) :=
  (if (P_X5_isCounter x1 x2 M) = 0 then
  some ((-1 : Int32), M)
  else
  F_X5_changes_b33 fu x1 x2 fu (P_X5_counter x1 x2 M) (P_X1_at 26 96 (P_X5_counter x1 x2 M) M) (0 : Int32) (0 : Int32) M)
set_option maxRecDepth 100000 in
set_option maxHeartbeats 4000000 in
theorem w_X5_changes {l : Launch} (fu : Nat) (x1 : Int32) (x2 : Int32)     (M : xM)  : AW SC l RX5 cX5_changes 8 (some .int) 3 ki (F_X5_changes fu x1 x2  M) 0 [some (xr 5), some (xi x1), some (xi x2), none, none, none, none, none] [] M := by
  unfold F_X5_changes
  refine A_aload_n dX5_changes_0 rfl ?_
  refine A_iload_n dX5_changes_1 rfl ?_
  refine A_iload_n dX5_changes_2 rfl ?_
  refine A_callVp (a_X5_isCounter (l := l) _ _ _ ) lc_X5_75 rfl rfl (by decide) (Nat.le_of_ble_eq_true rfl) rfl dX5_changes_3 ?_
  refine A_if_ne (tgt := 11) dX5_changes_6 (by decide) (fun _ => ?_) (fun _ => ?_)
  · refine A_iconst (v := (-1 : Int32)) dX5_changes_9 oI_m1 ?_
    exact A_iret rfl dX5_changes_10
  · refine A_iload_n dX5_changes_11 rfl ?_
    refine A_iload_n dX5_changes_12 rfl ?_
    refine A_callSp (a_X5_counter (l := l) _ _ _ ) lc_X5_79 rfl (by decide) (Nat.le_of_ble_eq_true rfl) rfl dX5_changes_13 ?_
    refine A_istore_n dX5_changes_16 (Nat.le_of_ble_eq_true rfl) rfl ?_
    refine A_aload_n dX5_changes_17 rfl ?_
    refine A_getr lf_X5_26 rfl rfl dX5_changes_18 ?_
    refine A_iload_n dX5_changes_21 rfl ?_
    refine A_callSp (a_X1_at (S := SC) (l := l) _ _ _ _ rfl) lc_X5_83 rfl (by decide) (Nat.le_of_ble_eq_true rfl) rfl dX5_changes_22 ?_
    refine A_istore dX5_changes_25 (Nat.le_of_ble_eq_true rfl) rfl ?_
    refine A_iconst (v := (0 : Int32)) dX5_changes_27 oI_0 ?_
    refine A_istore dX5_changes_28 (Nat.le_of_ble_eq_true rfl) rfl ?_
    refine A_iconst (v := (0 : Int32)) dX5_changes_30 oI_0 ?_
    refine A_istore dX5_changes_31 (Nat.le_of_ble_eq_true rfl) rfl ?_
    exact (a_X5_changes_b33 (l := l) fu x1 x2  fu _ _ _ _ _).sub ⟨rfl, rfl, rfl, rfl, rfl, trivial⟩
theorem a_X5_changes {l : Launch} (fu : Nat)  (x1 : Int32) (x2 : Int32) (M : xM)  : AM SC l yX5_changes cX5_changes 8 (some .int) 3 ki [xr 5, xi x1, xi x2] M (F_X5_changes fu x1 x2  M) :=
  AM.of (L0 := [some (xr 5), some (xi x1), some (xi x2), none, none, none, none, none]) (w_X5_changes (l := l) fu x1 x2  M ) (by decide +kernel) rfl (Nat.le_of_ble_eq_true rfl) ⟨rfl, rfl, rfl, trivial⟩
def P_X5_latest  (x1 : Int32) (x2 : Int32)   (M : xM) : Int32 :=
  (if (P_X1_at 31 96 (P_X5_counter x1 x2 M) M) = 0 then
  (P_X1_at 26 96 (P_X5_counter x1 x2 M) M)
  else
  (P_X1_at 32 768 ((((P_X5_counter x1 x2 M) * (8 : Int32)) + (P_X1_at 31 96 (P_X5_counter x1 x2 M) M)) - (1 : Int32)) M))
set_option maxRecDepth 100000 in
set_option maxHeartbeats 4000000 in
theorem w_X5_latest {l : Launch} (x1 : Int32) (x2 : Int32)     (M : xM)  : AW SC l RX5 cX5_latest 5 (some .int) 1 ki (some (P_X5_latest x1 x2  M, M)) 0 [some (xr 5), some (xi x1), some (xi x2), none, none] [] M := by
  unfold P_X5_latest
  refine A_iload_n dX5_latest_0 rfl ?_
  refine A_iload_n dX5_latest_1 rfl ?_
  refine A_callSp (a_X5_counter (l := l) _ _ _ ) lc_X5_79 rfl (by decide) (Nat.le_of_ble_eq_true rfl) rfl dX5_latest_2 ?_
  refine A_istore_n dX5_latest_5 (Nat.le_of_ble_eq_true rfl) rfl ?_
  refine A_aload_n dX5_latest_6 rfl ?_
  refine A_getr lf_X5_41 rfl rfl dX5_latest_7 ?_
  refine A_iload_n dX5_latest_10 rfl ?_
  refine A_callSp (a_X1_at (S := SC) (l := l) _ _ _ _ rfl) lc_X5_83 rfl (by decide) (Nat.le_of_ble_eq_true rfl) rfl dX5_latest_11 ?_
  refine A_istore dX5_latest_14 (Nat.le_of_ble_eq_true rfl) rfl ?_
  refine A_iload dX5_latest_16 rfl ?_
  refine A_if_ne_p (tgt := 32) dX5_latest_18 (by decide) (fun _ => ?_) (fun _ => ?_)
  · refine A_aload_n dX5_latest_21 rfl ?_
    refine A_getr lf_X5_26 rfl rfl dX5_latest_22 ?_
    refine A_iload_n dX5_latest_25 rfl ?_
    refine A_callSp (a_X1_at (S := SC) (l := l) _ _ _ _ rfl) lc_X5_83 rfl (by decide) (Nat.le_of_ble_eq_true rfl) rfl dX5_latest_26 ?_
    refine A_goto (tgt := 48) dX5_latest_29 (by decide) ?_
    exact A_iret rfl dX5_latest_48
  · refine A_aload_n dX5_latest_32 rfl ?_
    refine A_getr lf_X5_44 rfl rfl dX5_latest_33 ?_
    refine A_iload_n dX5_latest_36 rfl ?_
    refine A_bipush (v := (8 : Int32)) dX5_latest_37 oB_8 ?_
    refine A_imul dX5_latest_39 ?_
    refine A_iload dX5_latest_40 rfl ?_
    refine A_iadd dX5_latest_42 ?_
    refine A_iconst (v := (1 : Int32)) dX5_latest_43 oI_1 ?_
    refine A_isub dX5_latest_44 ?_
    refine A_callSp (a_X1_at (S := SC) (l := l) _ _ _ _ rfl) lc_X5_83 rfl (by decide) (Nat.le_of_ble_eq_true rfl) rfl dX5_latest_45 ?_
    exact A_iret rfl dX5_latest_48
theorem a_X5_latest {l : Launch}  (x1 : Int32) (x2 : Int32) (M : xM)  : AM SC l yX5_latest cX5_latest 5 (some .int) 1 ki [xr 5, xi x1, xi x2] M (some (P_X5_latest  x1 x2  M, M)) :=
  AM.of (L0 := [some (xr 5), some (xi x1), some (xi x2), none, none]) (w_X5_latest (l := l) x1 x2  M ) (by decide +kernel) rfl (Nat.le_of_ble_eq_true rfl) ⟨rfl, rfl, rfl, trivial⟩
def F_X5_unlikeShown_b37 (fu : Nat)  (x1 : Int32) (k4 : Int32 → Int32 → xM → Option (Int32 × xM)) (x2 : Int32) (x3 : Int32) (M : xM) : Option (Int32 × xM) :=
  k4 x2 (x3 + (1 : Int32)) M
set_option maxRecDepth 100000 in
set_option maxHeartbeats 4000000 in
theorem a_X5_unlikeShown_b37 {l : Launch} (fu : Nat) (x1 : Int32)  {k4 : Int32 → Int32 → xM → Option (Int32 × xM)} (hk4 : ∀ (b0 : Int32) (b1 : Int32) (M : xM), AW SC l RX5 cX5_unlikeShown 4 (some .int) 2 ki (k4 b0 b1 M) 4 [some (xr 5), some (xi x1), some (xi b0), some (xi b1)] [] M) (x2 : Int32) (x3 : Int32) (M : xM)  : AW SC l RX5 cX5_unlikeShown 4 (some .int) 2 ki (F_X5_unlikeShown_b37 fu x1 k4 x2 x3 M) 37 [some (xr 5), some (xi x1), some (xi x2), some (xi x3)] [] M := by
  unfold F_X5_unlikeShown_b37
  refine A_iinc dX5_unlikeShown_37 rfl oI_1 (Nat.le_of_ble_eq_true rfl) rfl ?_
  refine A_goto (tgt := 4) dX5_unlikeShown_40 (by decide) ?_
  exact (hk4 _ _ _).sub ⟨rfl, rfl, rfl, rfl, trivial⟩
def F_X5_unlikeShown_b4 (fu : Nat)  (x1 : Int32)  : Nat → Int32 → Int32 → xM → Option (Int32 × xM)
  | 0, _, _, _ => none
  | n + 1, x2, x3, M =>
    (if (M 1 0) ≤ x3 then
    some (x2, M)
    else
    (if (P_X5_latest x1 x3 M) = (P_X5_shownAt x1 x3 M) then
    F_X5_unlikeShown_b37 fu x1 (F_X5_unlikeShown_b4 fu x1 n) x2 x3 M
    else
    F_X5_unlikeShown_b37 fu x1 (F_X5_unlikeShown_b4 fu x1 n) (x2 ||| (P_X1_bit x3 M)) x3 M))
set_option maxRecDepth 100000 in
set_option maxHeartbeats 4000000 in
theorem a_X5_unlikeShown_b4 {l : Launch} (fu : Nat) (x1 : Int32)    : ∀ (n : Nat) (x2 : Int32) (x3 : Int32) (M : xM), AW SC l RX5 cX5_unlikeShown 4 (some .int) 2 ki (F_X5_unlikeShown_b4 fu x1 n x2 x3 M) 4 [some (xr 5), some (xi x1), some (xi x2), some (xi x3)] [] M := by
  intro n
  induction n with
  | zero =>
    intro x2 x3 M
    exact AW.none
  | succ n ih =>
    intro x2 x3 M
    rw [F_X5_unlikeShown_b4]
    refine A_iload_n dX5_unlikeShown_4 rfl ?_
    refine A_aload_n dX5_unlikeShown_5 rfl ?_
    refine A_getr lf_X5_47 rfl rfl dX5_unlikeShown_6 ?_
    refine A_geti lf_X5_97 rfl rfl dX5_unlikeShown_9 ?_
    refine A_icmp_ge (tgt := 43) dX5_unlikeShown_12 (by decide) (fun _ => ?_) (fun _ => ?_)
    · refine A_iload_n dX5_unlikeShown_43 rfl ?_
      exact A_iret rfl dX5_unlikeShown_44
    · refine A_aload_n dX5_unlikeShown_15 rfl ?_
      refine A_iload_n dX5_unlikeShown_16 rfl ?_
      refine A_iload_n dX5_unlikeShown_17 rfl ?_
      refine A_callVp (a_X5_latest (l := l) _ _ _ ) lc_X5_100 rfl rfl (by decide) (Nat.le_of_ble_eq_true rfl) rfl dX5_unlikeShown_18 ?_
      refine A_aload_n dX5_unlikeShown_21 rfl ?_
      refine A_iload_n dX5_unlikeShown_22 rfl ?_
      refine A_iload_n dX5_unlikeShown_23 rfl ?_
      refine A_callVp (a_X5_shownAt (l := l) _ _ _ ) lc_X5_103 rfl rfl (by decide) (Nat.le_of_ble_eq_true rfl) rfl dX5_unlikeShown_24 ?_
      refine A_icmp_eq (tgt := 37) dX5_unlikeShown_27 (by decide) (fun _ => ?_) (fun _ => ?_)
      · exact (a_X5_unlikeShown_b37 (l := l) fu x1 ih _ _ _ ).sub ⟨rfl, rfl, rfl, rfl, trivial⟩
      · refine A_iload_n dX5_unlikeShown_30 rfl ?_
        refine A_iload_n dX5_unlikeShown_31 rfl ?_
        refine A_callSp (a_X1_bit (S := SC) (l := l) _ _ ) lc_X5_106 rfl (by decide) (Nat.le_of_ble_eq_true rfl) rfl dX5_unlikeShown_32 ?_
        refine A_ior dX5_unlikeShown_35 ?_
        refine A_istore_n dX5_unlikeShown_36 (Nat.le_of_ble_eq_true rfl) rfl ?_
        exact (a_X5_unlikeShown_b37 (l := l) fu x1 ih _ _ _ ).sub ⟨rfl, rfl, rfl, rfl, trivial⟩
def F_X5_unlikeShown (fu : Nat)  (x1 : Int32)   (M : xM) : Option (Int32 × xM) :=
  F_X5_unlikeShown_b4 fu x1 fu (0 : Int32) (0 : Int32) M
set_option maxRecDepth 100000 in
set_option maxHeartbeats 4000000 in
theorem w_X5_unlikeShown {l : Launch} (fu : Nat) (x1 : Int32)     (M : xM)  : AW SC l RX5 cX5_unlikeShown 4 (some .int) 2 ki (F_X5_unlikeShown fu x1  M) 0 [some (xr 5), some (xi x1), none, none] [] M := by
  unfold F_X5_unlikeShown
  refine A_iconst (v := (0 : Int32)) dX5_unlikeShown_0 oI_0 ?_
  refine A_istore_n dX5_unlikeShown_1 (Nat.le_of_ble_eq_true rfl) rfl ?_
  refine A_iconst (v := (0 : Int32)) dX5_unlikeShown_2 oI_0 ?_
  refine A_istore_n dX5_unlikeShown_3 (Nat.le_of_ble_eq_true rfl) rfl ?_
  exact (a_X5_unlikeShown_b4 (l := l) fu x1  fu _ _ _).sub ⟨rfl, rfl, rfl, rfl, trivial⟩
theorem a_X5_unlikeShown {l : Launch} (fu : Nat)  (x1 : Int32) (M : xM)  : AM SC l yX5_unlikeShown cX5_unlikeShown 4 (some .int) 2 ki [xr 5, xi x1] M (F_X5_unlikeShown fu x1  M) :=
  AM.of (L0 := [some (xr 5), some (xi x1), none, none]) (w_X5_unlikeShown (l := l) fu x1  M ) (by decide +kernel) rfl (Nat.le_of_ble_eq_true rfl) ⟨rfl, rfl, trivial⟩
def F_X5_takeRecounts_b11 (fu : Nat)  (x1 : Int32)  : Nat → Int32 → Int32 → xM → Option (Int32 × xM)
  | 0, _, _, _ => none
  | n + 1, x2, x3, M =>
    (if (M 1 0) ≤ x3 then
    some (x2, M)
    else
    (F_X1_put 26 96 (P_X5_counter x1 x3 M) (P_X5_latest x1 x3 M) M).bind fun q1 =>
    F_X5_takeRecounts_b11 fu x1 n x2 (x3 + (1 : Int32)) q1)
set_option maxRecDepth 100000 in
set_option maxHeartbeats 4000000 in
theorem a_X5_takeRecounts_b11 {l : Launch} (fu : Nat) (x1 : Int32)    : ∀ (n : Nat) (x2 : Int32) (x3 : Int32) (M : xM), AW SC l RX5 cX5_takeRecounts 4 (some .int) 3 ki (F_X5_takeRecounts_b11 fu x1 n x2 x3 M) 11 [some (xr 5), some (xi x1), some (xi x2), some (xi x3)] [] M := by
  intro n
  induction n with
  | zero =>
    intro x2 x3 M
    exact AW.none
  | succ n ih =>
    intro x2 x3 M
    rw [F_X5_takeRecounts_b11]
    refine A_iload_n dX5_takeRecounts_11 rfl ?_
    refine A_aload_n dX5_takeRecounts_12 rfl ?_
    refine A_getr lf_X5_47 rfl rfl dX5_takeRecounts_13 ?_
    refine A_geti lf_X5_97 rfl rfl dX5_takeRecounts_16 ?_
    refine A_icmp_ge (tgt := 46) dX5_takeRecounts_19 (by decide) (fun _ => ?_) (fun _ => ?_)
    · refine A_iload_n dX5_takeRecounts_46 rfl ?_
      exact A_iret rfl dX5_takeRecounts_47
    · refine A_aload_n dX5_takeRecounts_22 rfl ?_
      refine A_getr lf_X5_26 rfl rfl dX5_takeRecounts_23 ?_
      refine A_iload_n dX5_takeRecounts_26 rfl ?_
      refine A_iload_n dX5_takeRecounts_27 rfl ?_
      refine A_callSp (a_X5_counter (l := l) _ _ _ ) lc_X5_79 rfl (by decide) (Nat.le_of_ble_eq_true rfl) rfl dX5_takeRecounts_28 ?_
      refine A_aload_n dX5_takeRecounts_31 rfl ?_
      refine A_iload_n dX5_takeRecounts_32 rfl ?_
      refine A_iload_n dX5_takeRecounts_33 rfl ?_
      refine A_callVp (a_X5_latest (l := l) _ _ _ ) lc_X5_100 rfl rfl (by decide) (Nat.le_of_ble_eq_true rfl) rfl dX5_takeRecounts_34 ?_
      refine A_callSv (a_X1_put (S := SC) (l := l) _ _ _ _ _ rfl) lc_X5_65 rfl (by decide) (Nat.le_of_ble_eq_true rfl) rfl dX5_takeRecounts_37 (fun q1 hq1 => ?_)
      refine A_iinc dX5_takeRecounts_40 rfl oI_1 (Nat.le_of_ble_eq_true rfl) rfl ?_
      refine A_goto (tgt := 11) dX5_takeRecounts_43 (by decide) ?_
      exact (ih _ _ _).sub ⟨rfl, rfl, rfl, rfl, trivial⟩
def F_X5_takeRecounts (fu : Nat)  (x1 : Int32)   (M : xM) : Option (Int32 × xM) :=
  (F_X5_unlikeShown fu x1 M).bind fun q1 =>
  F_X5_takeRecounts_b11 fu x1 fu (P_J6_bitCount_0f7a4 q1.1 q1.2) (0 : Int32) q1.2
set_option maxRecDepth 100000 in
set_option maxHeartbeats 4000000 in
theorem w_X5_takeRecounts {l : Launch} (fu : Nat) (x1 : Int32)     (M : xM)  : AW SC l RX5 cX5_takeRecounts 4 (some .int) 3 ki (F_X5_takeRecounts fu x1  M) 0 [some (xr 5), some (xi x1), none, none] [] M := by
  unfold F_X5_takeRecounts
  refine A_aload_n dX5_takeRecounts_0 rfl ?_
  refine A_iload_n dX5_takeRecounts_1 rfl ?_
  refine A_callVi (a_X5_unlikeShown (l := l) fu _ _ ) lc_X5_109 rfl rfl (by decide) (Nat.le_of_ble_eq_true rfl) rfl dX5_takeRecounts_2 (fun q1 Mq1 hq1 => ?_)
  refine A_callSp (a_J6_bitCount_0f7a4 (S := SC) (l := l) _ _ ) lc_X5_112 rfl (by decide) (Nat.le_of_ble_eq_true rfl) rfl dX5_takeRecounts_5 ?_
  refine A_istore_n dX5_takeRecounts_8 (Nat.le_of_ble_eq_true rfl) rfl ?_
  refine A_iconst (v := (0 : Int32)) dX5_takeRecounts_9 oI_0 ?_
  refine A_istore_n dX5_takeRecounts_10 (Nat.le_of_ble_eq_true rfl) rfl ?_
  exact (a_X5_takeRecounts_b11 (l := l) fu x1  fu _ _ _).sub ⟨rfl, rfl, rfl, rfl, trivial⟩
theorem a_X5_takeRecounts {l : Launch} (fu : Nat)  (x1 : Int32) (M : xM)  : AM SC l yX5_takeRecounts cX5_takeRecounts 4 (some .int) 3 ki [xr 5, xi x1] M (F_X5_takeRecounts fu x1  M) :=
  AM.of (L0 := [some (xr 5), some (xi x1), none, none]) (w_X5_takeRecounts (l := l) fu x1  M ) (by decide +kernel) rfl (Nat.le_of_ble_eq_true rfl) ⟨rfl, rfl, trivial⟩
