theorem oB_10 : (Int8.ofInt (10)).toInt32 = (10 : Int32) := by decide +kernel
theorem oB_33 : (Int8.ofInt (33)).toInt32 = (33 : Int32) := by decide +kernel
theorem oB_6 : (Int8.ofInt (6)).toInt32 = (6 : Int32) := by decide +kernel
theorem lk_X0_126 : Jvm.Cond.constantLong RX0 126 (6364136223846793005) ∈ lw_g := lw_gm 1118 (by decide +kernel) rfl
theorem lk_X0_128 : Jvm.Cond.constantLong RX0 128 (1442695040888963407) ∈ lw_g := lw_gm 1119 (by decide +kernel) rfl
theorem lf_X0_101 : xfl RX0 101 0 11 (tyX0 11) false := ⟨_, _, _, _, xc_X0, by decide, rfl, rfl, rfl, lw_gm 165 (by decide +kernel) rfl⟩
theorem lf_X0_104 : xfl RX0 104 0 9 (tyX0 9) false := ⟨_, _, _, _, xc_X0, by decide, rfl, rfl, rfl, lw_gm 163 (by decide +kernel) rfl⟩
theorem lf_X0_107 : xfl RX0 107 0 12 (tyX0 12) false := ⟨_, _, _, _, xc_X0, by decide, rfl, rfl, rfl, lw_gm 166 (by decide +kernel) rfl⟩
theorem lf_X0_11 : xfl RX0 11 0 3 (tyX0 3) true := ⟨_, _, _, _, xc_X0, by decide, rfl, rfl, rfl, lw_gm 157 (by decide +kernel) rfl⟩
theorem lf_X0_15 : xfl RX0 15 0 4 (tyX0 4) true := ⟨_, _, _, _, xc_X0, by decide, rfl, rfl, rfl, lw_gm 158 (by decide +kernel) rfl⟩
theorem lf_X0_18 : xfl RX0 18 0 5 (tyX0 5) true := ⟨_, _, _, _, xc_X0, by decide, rfl, rfl, rfl, lw_gm 159 (by decide +kernel) rfl⟩
theorem lf_X0_21 : xfl RX0 21 0 6 (tyX0 6) true := ⟨_, _, _, _, xc_X0, by decide, rfl, rfl, rfl, lw_gm 160 (by decide +kernel) rfl⟩
theorem lf_X0_24 : xfl RX0 24 0 8 (tyX0 8) false := ⟨_, _, _, _, xc_X0, by decide, rfl, rfl, rfl, lw_gm 162 (by decide +kernel) rfl⟩
theorem lf_X0_28 : xfl RX0 28 0 13 (tyX0 13) true := ⟨_, _, _, _, xc_X0, by decide, rfl, rfl, rfl, lw_gm 167 (by decide +kernel) rfl⟩
theorem lf_X0_31 : xfl RX0 31 0 14 (tyX0 14) true := ⟨_, _, _, _, xc_X0, by decide, rfl, rfl, rfl, lw_gm 168 (by decide +kernel) rfl⟩
theorem lf_X0_40 : xfl RX0 40 0 0 (tyX0 0) true := ⟨_, _, _, _, xc_X0, by decide, rfl, rfl, rfl, lw_gm 146 (by decide +kernel) rfl⟩
theorem lf_X0_52 : xfl RX0 52 0 1 (tyX0 1) false := ⟨_, _, _, _, xc_X0, by decide, rfl, rfl, rfl, lw_gm 152 (by decide +kernel) rfl⟩
theorem lf_X0_59 : xfl RX0 59 0 7 (tyX0 7) false := ⟨_, _, _, _, xc_X0, by decide, rfl, rfl, rfl, lw_gm 161 (by decide +kernel) rfl⟩
theorem lf_X0_71 : xfl RX0 71 0 2 (tyX0 2) false := ⟨_, _, _, _, xc_X0, by decide, rfl, rfl, rfl, lw_gm 155 (by decide +kernel) rfl⟩
theorem lf_X0_98 : xfl RX0 98 0 10 (tyX0 10) false := ⟨_, _, _, _, xc_X0, by decide, rfl, rfl, rfl, lw_gm 164 (by decide +kernel) rfl⟩
theorem lc_X0_110 : xlV RX0 110 yX0_isLawful cX0_isLawful 3 (some .boolean) 1 0 := ⟨⟨lw_gm 586 (by decide +kernel) rfl, lw_gm 105 (by decide +kernel) rfl, lw_gm 565 (by decide +kernel) rfl, ⟨by decide, by decide, by decide +kernel⟩, by decide⟩, lw_gm 563 (by decide +kernel) rfl, lw_gm 564 (by decide +kernel) rfl, _, _, rfl⟩
theorem lc_X0_113 : xlV RX0 113 yX0_fewestStraps cX0_fewestStraps 3 (some .int) 0 0 := ⟨⟨lw_gm 587 (by decide +kernel) rfl, lw_gm 105 (by decide +kernel) rfl, lw_gm 590 (by decide +kernel) rfl, ⟨by decide, by decide, by decide +kernel⟩, by decide⟩, lw_gm 589 (by decide +kernel) rfl, lw_gm 1 (by decide +kernel) rfl, _, _, rfl⟩
theorem lc_X0_117 : xlS RX0 117 yX1_better cX1_better 5 (some .boolean) 2 := ⟨⟨lw_gm 591 (by decide +kernel) rfl, lw_gm 106 (by decide +kernel) rfl, lw_gm 593 (by decide +kernel) rfl, ⟨by decide, by decide, by decide +kernel⟩, by decide⟩, lw_gm 592 (by decide +kernel) rfl⟩
theorem lc_X0_120 : xlV RX0 120 yX0_holdsAll cX0_holdsAll 3 (some .boolean) 1 0 := ⟨⟨lw_gm 595 (by decide +kernel) rfl, lw_gm 105 (by decide +kernel) rfl, lw_gm 598 (by decide +kernel) rfl, ⟨by decide, by decide, by decide +kernel⟩, by decide⟩, lw_gm 597 (by decide +kernel) rfl, lw_gm 2 (by decide +kernel) rfl, _, _, rfl⟩
theorem lc_X0_123 : xlV RX0 123 yX0_isLet cX0_isLet 2 (some .boolean) 1 0 := ⟨⟨lw_gm 627 (by decide +kernel) rfl, lw_gm 105 (by decide +kernel) rfl, lw_gm 553 (by decide +kernel) rfl, ⟨by decide, by decide, by decide +kernel⟩, by decide⟩, lw_gm 551 (by decide +kernel) rfl, lw_gm 552 (by decide +kernel) rfl, _, _, rfl⟩
theorem lc_X0_130 : xlS RX0 130 yX1_swap cX1_swap 4 none 3 := ⟨⟨lw_gm 1120 (by decide +kernel) rfl, lw_gm 106 (by decide +kernel) rfl, lw_gm 882 (by decide +kernel) rfl, ⟨by decide, by decide, by decide +kernel⟩, by decide⟩, lw_gm 881 (by decide +kernel) rfl⟩
theorem lc_X0_133 : xlS RX0 133 yX1_modulo cX1_modulo 2 (some .int) 2 := ⟨⟨lw_gm 1125 (by decide +kernel) rfl, lw_gm 106 (by decide +kernel) rfl, lw_gm 898 (by decide +kernel) rfl, ⟨by decide, by decide, by decide +kernel⟩, by decide⟩, lw_gm 897 (by decide +kernel) rfl⟩
theorem lc_X0_44 : xlS RX0 44 yX1_all cX1_all 1 (some .int) 1 := ⟨⟨lw_gm 510 (by decide +kernel) rfl, lw_gm 106 (by decide +kernel) rfl, lw_gm 512 (by decide +kernel) rfl, ⟨by decide, by decide, by decide +kernel⟩, by decide⟩, lw_gm 511 (by decide +kernel) rfl⟩
theorem lc_X0_48 : xlS RX0 48 yX1_within cX1_within 3 (some .boolean) 3 := ⟨⟨lw_gm 516 (by decide +kernel) rfl, lw_gm 106 (by decide +kernel) rfl, lw_gm 518 (by decide +kernel) rfl, ⟨by decide, by decide, by decide +kernel⟩, by decide⟩, lw_gm 517 (by decide +kernel) rfl⟩
theorem lc_X0_55 : xlV RX0 55 yX0_isRow cX0_isRow 2 (some .boolean) 1 0 := ⟨⟨lw_gm 506 (by decide +kernel) rfl, lw_gm 105 (by decide +kernel) rfl, lw_gm 509 (by decide +kernel) rfl, ⟨by decide, by decide, by decide +kernel⟩, by decide⟩, lw_gm 507 (by decide +kernel) rfl, lw_gm 508 (by decide +kernel) rfl, _, _, rfl⟩
theorem lc_X0_62 : xlS RX0 62 yJ6_bitCount_0f7a4 cJ6_bitCount_0f7a4 1 (some .int) 1 := ⟨⟨lw_gm 519 (by decide +kernel) rfl, lw_gm 118 (by decide +kernel) rfl, lw_gm 521 (by decide +kernel) rfl, ⟨by decide, by decide, by decide +kernel⟩, by decide⟩, lw_gm 520 (by decide +kernel) rfl⟩
theorem lc_X0_67 : xlS RX0 67 yX1_put cX1_put 3 none 3 := ⟨⟨lw_gm 525 (by decide +kernel) rfl, lw_gm 106 (by decide +kernel) rfl, lw_gm 527 (by decide +kernel) rfl, ⟨by decide, by decide, by decide +kernel⟩, by decide⟩, lw_gm 526 (by decide +kernel) rfl⟩
theorem lc_X0_74 : xlS RX0 74 yX1_at cX1_at 2 (some .int) 2 := ⟨⟨lw_gm 558 (by decide +kernel) rfl, lw_gm 106 (by decide +kernel) rfl, lw_gm 560 (by decide +kernel) rfl, ⟨by decide, by decide, by decide +kernel⟩, by decide⟩, lw_gm 559 (by decide +kernel) rfl⟩
theorem lc_X0_78 : xlS RX0 78 yX1_has cX1_has 2 (some .boolean) 2 := ⟨⟨lw_gm 887 (by decide +kernel) rfl, lw_gm 106 (by decide +kernel) rfl, lw_gm 858 (by decide +kernel) rfl, ⟨by decide, by decide, by decide +kernel⟩, by decide⟩, lw_gm 857 (by decide +kernel) rfl⟩
theorem lc_X0_82 : xlV RX0 82 yX0_leversOf cX0_leversOf 2 (some .int) 1 0 := ⟨⟨lw_gm 566 (by decide +kernel) rfl, lw_gm 105 (by decide +kernel) rfl, lw_gm 569 (by decide +kernel) rfl, ⟨by decide, by decide, by decide +kernel⟩, by decide⟩, lw_gm 567 (by decide +kernel) rfl, lw_gm 568 (by decide +kernel) rfl, _, _, rfl⟩
theorem lc_X0_85 : xlS RX0 85 yX1_bit cX1_bit 1 (some .int) 1 := ⟨⟨lw_gm 561 (by decide +kernel) rfl, lw_gm 106 (by decide +kernel) rfl, lw_gm 515 (by decide +kernel) rfl, ⟨by decide, by decide, by decide +kernel⟩, by decide⟩, lw_gm 514 (by decide +kernel) rfl⟩
theorem lc_X0_88 : xlV RX0 88 yX0_strapsAgainst cX0_strapsAgainst 7 (some .int) 2 0 := ⟨⟨lw_gm 554 (by decide +kernel) rfl, lw_gm 105 (by decide +kernel) rfl, lw_gm 557 (by decide +kernel) rfl, ⟨by decide, by decide, by decide +kernel⟩, by decide⟩, lw_gm 555 (by decide +kernel) rfl, lw_gm 556 (by decide +kernel) rfl, _, _, rfl⟩
theorem lc_X0_92 : xlV RX0 92 yX0_mostOf cX0_mostOf 2 (some .int) 1 0 := ⟨⟨lw_gm 570 (by decide +kernel) rfl, lw_gm 105 (by decide +kernel) rfl, lw_gm 573 (by decide +kernel) rfl, ⟨by decide, by decide, by decide +kernel⟩, by decide⟩, lw_gm 571 (by decide +kernel) rfl, lw_gm 572 (by decide +kernel) rfl, _, _, rfl⟩
theorem lc_X0_95 : xlV RX0 95 yX0_sweep cX0_sweep 4 none 0 0 := ⟨⟨lw_gm 582 (by decide +kernel) rfl, lw_gm 105 (by decide +kernel) rfl, lw_gm 585 (by decide +kernel) rfl, ⟨by decide, by decide, by decide +kernel⟩, by decide⟩, lw_gm 584 (by decide +kernel) rfl, lw_gm 0 (by decide +kernel) rfl, _, _, rfl⟩
def P_X0_isRow  (x1 : Int32)   (M : xM) : Int32 :=
  (P_X1_within x1 (0 : Int32) (P_X1_all (M 1 0) M) M)
set_option maxRecDepth 100000 in
set_option maxHeartbeats 4000000 in
theorem w_X0_isRow {l : Launch} (x1 : Int32)     (M : xM)  : AW SC l RX0 cX0_isRow 2 (some .boolean) 2 ki (some (P_X0_isRow x1  M, M)) 0 [some (xr 1), some (xi x1)] [] M := by
  unfold P_X0_isRow
  refine A_iload_n dX0_isRow_0 rfl ?_
  refine A_iconst (v := (0 : Int32)) dX0_isRow_1 oI_0 ?_
  refine A_aload_n dX0_isRow_2 rfl ?_
  refine A_geti lf_X0_40 rfl rfl dX0_isRow_3 ?_
  refine A_callSp (a_X1_all (S := SC) (l := l) _ _ ) lc_X0_44 rfl (by decide) (Nat.le_of_ble_eq_true rfl) rfl dX0_isRow_6 ?_
  refine A_callSp (a_X1_within (S := SC) (l := l) _ _ _ _ ) lc_X0_48 rfl (by decide) (Nat.le_of_ble_eq_true rfl) rfl dX0_isRow_9 ?_
  exact A_zret' rfl (zP_X1_within _ _ _ _) dX0_isRow_12
theorem a_X0_isRow {l : Launch}  (x1 : Int32) (M : xM)  : AM SC l yX0_isRow cX0_isRow 2 (some .boolean) 2 ki [xr 1, xi x1] M (some (P_X0_isRow  x1  M, M)) :=
  AM.of (L0 := [some (xr 1), some (xi x1)]) (w_X0_isRow (l := l) x1  M ) (by decide +kernel) rfl (Nat.le_of_ble_eq_true rfl) ⟨rfl, rfl, trivial⟩
theorem zP_X0_isRow (x1 : Int32) (M : xM) : P_X0_isRow x1 M = 0 ∨ P_X0_isRow x1 M = 1 := by
  unfold P_X0_isRow
  repeat' split
  all_goals first | decide | with_reducible exact zP_X1_within _ _ _ _
def P_X0_isLever  (x1 : Int32)   (M : xM) : Int32 :=
  (P_X1_within x1 (0 : Int32) ((M 1 0) - (1 : Int32)) M)
set_option maxRecDepth 100000 in
set_option maxHeartbeats 4000000 in
theorem w_X0_isLever {l : Launch} (x1 : Int32)     (M : xM)  : AW SC l RX0 cX0_isLever 2 (some .boolean) 1 ki (some (P_X0_isLever x1  M, M)) 0 [some (xr 1), some (xi x1)] [] M := by
  unfold P_X0_isLever
  refine A_iload_n dX0_isLever_0 rfl ?_
  refine A_iconst (v := (0 : Int32)) dX0_isLever_1 oI_0 ?_
  refine A_aload_n dX0_isLever_2 rfl ?_
  refine A_geti lf_X0_40 rfl rfl dX0_isLever_3 ?_
  refine A_iconst (v := (1 : Int32)) dX0_isLever_6 oI_1 ?_
  refine A_isub dX0_isLever_7 ?_
  refine A_callSp (a_X1_within (S := SC) (l := l) _ _ _ _ ) lc_X0_48 rfl (by decide) (Nat.le_of_ble_eq_true rfl) rfl dX0_isLever_8 ?_
  exact A_zret' rfl (zP_X1_within _ _ _ _) dX0_isLever_11
theorem a_X0_isLever {l : Launch}  (x1 : Int32) (M : xM)  : AM SC l yX0_isLever cX0_isLever 2 (some .boolean) 1 ki [xr 1, xi x1] M (some (P_X0_isLever  x1  M, M)) :=
  AM.of (L0 := [some (xr 1), some (xi x1)]) (w_X0_isLever (l := l) x1  M ) (by decide +kernel) rfl (Nat.le_of_ble_eq_true rfl) ⟨rfl, rfl, trivial⟩
theorem zP_X0_isLever (x1 : Int32) (M : xM) : P_X0_isLever x1 M = 0 ∨ P_X0_isLever x1 M = 1 := by
  unfold P_X0_isLever
  repeat' split
  all_goals first | decide | with_reducible exact zP_X1_within _ _ _ _
def P_X0_isOffice  (x1 : Int32)   (M : xM) : Int32 :=
  (P_X1_within x1 (0 : Int32) ((M 1 1) - (1 : Int32)) M)
set_option maxRecDepth 100000 in
set_option maxHeartbeats 4000000 in
theorem w_X0_isOffice {l : Launch} (x1 : Int32)     (M : xM)  : AW SC l RX0 cX0_isOffice 2 (some .boolean) 1 ki (some (P_X0_isOffice x1  M, M)) 0 [some (xr 1), some (xi x1)] [] M := by
  unfold P_X0_isOffice
  refine A_iload_n dX0_isOffice_0 rfl ?_
  refine A_iconst (v := (0 : Int32)) dX0_isOffice_1 oI_0 ?_
  refine A_aload_n dX0_isOffice_2 rfl ?_
  refine A_geti lf_X0_52 rfl rfl dX0_isOffice_3 ?_
  refine A_iconst (v := (1 : Int32)) dX0_isOffice_6 oI_1 ?_
  refine A_isub dX0_isOffice_7 ?_
  refine A_callSp (a_X1_within (S := SC) (l := l) _ _ _ _ ) lc_X0_48 rfl (by decide) (Nat.le_of_ble_eq_true rfl) rfl dX0_isOffice_8 ?_
  exact A_zret' rfl (zP_X1_within _ _ _ _) dX0_isOffice_11
theorem a_X0_isOffice {l : Launch}  (x1 : Int32) (M : xM)  : AM SC l yX0_isOffice cX0_isOffice 2 (some .boolean) 1 ki [xr 1, xi x1] M (some (P_X0_isOffice  x1  M, M)) :=
  AM.of (L0 := [some (xr 1), some (xi x1)]) (w_X0_isOffice (l := l) x1  M ) (by decide +kernel) rfl (Nat.le_of_ble_eq_true rfl) ⟨rfl, rfl, trivial⟩
theorem zP_X0_isOffice (x1 : Int32) (M : xM) : P_X0_isOffice x1 M = 0 ∨ P_X0_isOffice x1 M = 1 := by
  unfold P_X0_isOffice
  repeat' split
  all_goals first | decide | with_reducible exact zP_X1_within _ _ _ _
def F_X0_addOffice  (x1 : Int32) (x2 : Int32)   (M : xM) : Option (Int32 × xM) :=
  (if (P_X0_isRow x1 M) = 0 then
  some ((-1 : Int32), M)
  else
  (if x1 = 0 then
  some ((-1 : Int32), M)
  else
  (if (x1 &&& (M 1 7)) = 0 then
  (if (M 1 1) < (6 : Int32) then
  (if (P_X1_within x2 (1 : Int32) (P_J6_bitCount_0f7a4 x1 M) M) = 0 then
  some ((-1 : Int32), M)
  else
  (F_X1_put 11 6 (M 1 1) x1 M).bind fun q1 =>
  (F_X1_put 12 6 (q1 1 1) x2 q1).bind fun q2 =>
  some (((xset (xset q2 1 7 ((q2 1 7) ||| x1)) 1 8 (1 : Int32)) 1 1), (xset (xset (xset q2 1 7 ((q2 1 7) ||| x1)) 1 8 (1 : Int32)) 1 1 (((xset (xset q2 1 7 ((q2 1 7) ||| x1)) 1 8 (1 : Int32)) 1 1) + (1 : Int32)))))
  else
  some ((-1 : Int32), M))
  else
  some ((-1 : Int32), M))))
set_option maxRecDepth 100000 in
set_option maxHeartbeats 4000000 in
theorem w_X0_addOffice {l : Launch} (x1 : Int32) (x2 : Int32)     (M : xM)  : AW SC l RX0 cX0_addOffice 3 (some .int) 3 ki (F_X0_addOffice x1 x2  M) 0 [some (xr 1), some (xi x1), some (xi x2)] [] M := by
  unfold F_X0_addOffice
  refine A_aload_n dX0_addOffice_0 rfl ?_
  refine A_iload_n dX0_addOffice_1 rfl ?_
  refine A_callVp (a_X0_isRow (l := l) _ _ ) lc_X0_55 rfl rfl (by decide) (Nat.le_of_ble_eq_true rfl) rfl dX0_addOffice_2 ?_
  refine A_if_eq (tgt := 30) dX0_addOffice_5 (by decide) (fun _ => ?_) (fun _ => ?_)
  · refine A_iconst (v := (-1 : Int32)) dX0_addOffice_30 oI_m1 ?_
    exact A_iret rfl dX0_addOffice_31
  · refine A_iload_n dX0_addOffice_8 rfl ?_
    refine A_if_eq (tgt := 30) dX0_addOffice_9 (by decide) (fun _ => ?_) (fun _ => ?_)
    · refine A_iconst (v := (-1 : Int32)) dX0_addOffice_30 oI_m1 ?_
      exact A_iret rfl dX0_addOffice_31
    · refine A_iload_n dX0_addOffice_12 rfl ?_
      refine A_aload_n dX0_addOffice_13 rfl ?_
      refine A_geti lf_X0_59 rfl rfl dX0_addOffice_14 ?_
      refine A_iand dX0_addOffice_17 ?_
      refine A_if_ne (tgt := 30) dX0_addOffice_18 (by decide) (fun _ => ?_) (fun _ => ?_)
      · refine A_aload_n dX0_addOffice_21 rfl ?_
        refine A_geti lf_X0_52 rfl rfl dX0_addOffice_22 ?_
        refine A_bipush (v := (6 : Int32)) dX0_addOffice_25 oB_6 ?_
        refine A_icmp_lt (tgt := 32) dX0_addOffice_27 (by decide) (fun _ => ?_) (fun _ => ?_)
        · refine A_iload_n dX0_addOffice_32 rfl ?_
          refine A_iconst (v := (1 : Int32)) dX0_addOffice_33 oI_1 ?_
          refine A_iload_n dX0_addOffice_34 rfl ?_
          refine A_callSp (a_J6_bitCount_0f7a4 (S := SC) (l := l) _ _ ) lc_X0_62 rfl (by decide) (Nat.le_of_ble_eq_true rfl) rfl dX0_addOffice_35 ?_
          refine A_callSp (a_X1_within (S := SC) (l := l) _ _ _ _ ) lc_X0_48 rfl (by decide) (Nat.le_of_ble_eq_true rfl) rfl dX0_addOffice_38 ?_
          refine A_if_ne (tgt := 46) dX0_addOffice_41 (by decide) (fun _ => ?_) (fun _ => ?_)
          · refine A_iconst (v := (-1 : Int32)) dX0_addOffice_44 oI_m1 ?_
            exact A_iret rfl dX0_addOffice_45
          · refine A_aload_n dX0_addOffice_46 rfl ?_
            refine A_getr lf_X0_11 rfl rfl dX0_addOffice_47 ?_
            refine A_aload_n dX0_addOffice_50 rfl ?_
            refine A_geti lf_X0_52 rfl rfl dX0_addOffice_51 ?_
            refine A_iload_n dX0_addOffice_54 rfl ?_
            refine A_callSv (a_X1_put (S := SC) (l := l) _ _ _ _ _ rfl) lc_X0_67 rfl (by decide) (Nat.le_of_ble_eq_true rfl) rfl dX0_addOffice_55 (fun q1 hq1 => ?_)
            refine A_aload_n dX0_addOffice_58 rfl ?_
            refine A_getr lf_X0_15 rfl rfl dX0_addOffice_59 ?_
            refine A_aload_n dX0_addOffice_62 rfl ?_
            refine A_geti lf_X0_52 rfl rfl dX0_addOffice_63 ?_
            refine A_iload_n dX0_addOffice_66 rfl ?_
            refine A_callSv (a_X1_put (S := SC) (l := l) _ _ _ _ _ rfl) lc_X0_67 rfl (by decide) (Nat.le_of_ble_eq_true rfl) rfl dX0_addOffice_67 (fun q2 hq2 => ?_)
            refine A_aload_n dX0_addOffice_70 rfl ?_
            refine A_dup dX0_addOffice_71 rfl ?_
            refine A_geti lf_X0_59 rfl rfl dX0_addOffice_72 ?_
            refine A_iload_n dX0_addOffice_75 rfl ?_
            refine A_ior dX0_addOffice_76 ?_
            refine A_puti lf_X0_59 rfl rfl dX0_addOffice_77 ?_
            refine A_aload_n dX0_addOffice_80 rfl ?_
            refine A_iconst (v := (1 : Int32)) dX0_addOffice_81 oI_1 ?_
            refine A_putz lf_X0_24 rfl rfl (Or.inr rfl) dX0_addOffice_82 ?_
            refine A_aload_n dX0_addOffice_85 rfl ?_
            refine A_dup dX0_addOffice_86 rfl ?_
            refine A_geti lf_X0_52 rfl rfl dX0_addOffice_87 ?_
            refine A_dup_x1 dX0_addOffice_90 rfl rfl ?_
            refine A_iconst (v := (1 : Int32)) dX0_addOffice_91 oI_1 ?_
            refine A_iadd dX0_addOffice_92 ?_
            refine A_puti lf_X0_52 rfl rfl dX0_addOffice_93 ?_
            exact A_iret rfl dX0_addOffice_96
        · refine A_iconst (v := (-1 : Int32)) dX0_addOffice_30 oI_m1 ?_
          exact A_iret rfl dX0_addOffice_31
      · refine A_iconst (v := (-1 : Int32)) dX0_addOffice_30 oI_m1 ?_
        exact A_iret rfl dX0_addOffice_31
theorem a_X0_addOffice {l : Launch}  (x1 : Int32) (x2 : Int32) (M : xM)  : AM SC l yX0_addOffice cX0_addOffice 3 (some .int) 3 ki [xr 1, xi x1, xi x2] M (F_X0_addOffice  x1 x2  M) :=
  AM.of (L0 := [some (xr 1), some (xi x1), some (xi x2)]) (w_X0_addOffice (l := l) x1 x2  M ) (by decide +kernel) rfl (Nat.le_of_ble_eq_true rfl) ⟨rfl, rfl, rfl, trivial⟩
def F_X0_addStrap  (x1 : Int32) (x2 : Int32)   (M : xM) : Option (Int32 × xM) :=
  (if (P_X0_isRow x1 M) = 0 then
  some ((-1 : Int32), M)
  else
  (if x1 = 0 then
  some ((-1 : Int32), M)
  else
  (if (10 : Int32) ≤ (M 1 2) then
  some ((-1 : Int32), M)
  else
  (if (P_X1_within x2 (0 : Int32) (P_J6_bitCount_0f7a4 x1 M) M) = 0 then
  some ((-1 : Int32), M)
  else
  (F_X1_put 13 10 (M 1 2) x1 M).bind fun q1 =>
  (F_X1_put 14 10 (q1 1 2) x2 q1).bind fun q2 =>
  some (((xset q2 1 8 (1 : Int32)) 1 2), (xset (xset q2 1 8 (1 : Int32)) 1 2 (((xset q2 1 8 (1 : Int32)) 1 2) + (1 : Int32))))))))
set_option maxRecDepth 100000 in
set_option maxHeartbeats 4000000 in
theorem w_X0_addStrap {l : Launch} (x1 : Int32) (x2 : Int32)     (M : xM)  : AW SC l RX0 cX0_addStrap 3 (some .int) 3 ki (F_X0_addStrap x1 x2  M) 0 [some (xr 1), some (xi x1), some (xi x2)] [] M := by
  unfold F_X0_addStrap
  refine A_aload_n dX0_addStrap_0 rfl ?_
  refine A_iload_n dX0_addStrap_1 rfl ?_
  refine A_callVp (a_X0_isRow (l := l) _ _ ) lc_X0_55 rfl rfl (by decide) (Nat.le_of_ble_eq_true rfl) rfl dX0_addStrap_2 ?_
  refine A_if_eq (tgt := 33) dX0_addStrap_5 (by decide) (fun _ => ?_) (fun _ => ?_)
  · refine A_iconst (v := (-1 : Int32)) dX0_addStrap_33 oI_m1 ?_
    exact A_iret rfl dX0_addStrap_34
  · refine A_iload_n dX0_addStrap_8 rfl ?_
    refine A_if_eq (tgt := 33) dX0_addStrap_9 (by decide) (fun _ => ?_) (fun _ => ?_)
    · refine A_iconst (v := (-1 : Int32)) dX0_addStrap_33 oI_m1 ?_
      exact A_iret rfl dX0_addStrap_34
    · refine A_aload_n dX0_addStrap_12 rfl ?_
      refine A_geti lf_X0_71 rfl rfl dX0_addStrap_13 ?_
      refine A_bipush (v := (10 : Int32)) dX0_addStrap_16 oB_10 ?_
      refine A_icmp_ge (tgt := 33) dX0_addStrap_18 (by decide) (fun _ => ?_) (fun _ => ?_)
      · refine A_iconst (v := (-1 : Int32)) dX0_addStrap_33 oI_m1 ?_
        exact A_iret rfl dX0_addStrap_34
      · refine A_iload_n dX0_addStrap_21 rfl ?_
        refine A_iconst (v := (0 : Int32)) dX0_addStrap_22 oI_0 ?_
        refine A_iload_n dX0_addStrap_23 rfl ?_
        refine A_callSp (a_J6_bitCount_0f7a4 (S := SC) (l := l) _ _ ) lc_X0_62 rfl (by decide) (Nat.le_of_ble_eq_true rfl) rfl dX0_addStrap_24 ?_
        refine A_callSp (a_X1_within (S := SC) (l := l) _ _ _ _ ) lc_X0_48 rfl (by decide) (Nat.le_of_ble_eq_true rfl) rfl dX0_addStrap_27 ?_
        refine A_if_ne (tgt := 35) dX0_addStrap_30 (by decide) (fun _ => ?_) (fun _ => ?_)
        · refine A_iconst (v := (-1 : Int32)) dX0_addStrap_33 oI_m1 ?_
          exact A_iret rfl dX0_addStrap_34
        · refine A_aload_n dX0_addStrap_35 rfl ?_
          refine A_getr lf_X0_18 rfl rfl dX0_addStrap_36 ?_
          refine A_aload_n dX0_addStrap_39 rfl ?_
          refine A_geti lf_X0_71 rfl rfl dX0_addStrap_40 ?_
          refine A_iload_n dX0_addStrap_43 rfl ?_
          refine A_callSv (a_X1_put (S := SC) (l := l) _ _ _ _ _ rfl) lc_X0_67 rfl (by decide) (Nat.le_of_ble_eq_true rfl) rfl dX0_addStrap_44 (fun q1 hq1 => ?_)
          refine A_aload_n dX0_addStrap_47 rfl ?_
          refine A_getr lf_X0_21 rfl rfl dX0_addStrap_48 ?_
          refine A_aload_n dX0_addStrap_51 rfl ?_
          refine A_geti lf_X0_71 rfl rfl dX0_addStrap_52 ?_
          refine A_iload_n dX0_addStrap_55 rfl ?_
          refine A_callSv (a_X1_put (S := SC) (l := l) _ _ _ _ _ rfl) lc_X0_67 rfl (by decide) (Nat.le_of_ble_eq_true rfl) rfl dX0_addStrap_56 (fun q2 hq2 => ?_)
          refine A_aload_n dX0_addStrap_59 rfl ?_
          refine A_iconst (v := (1 : Int32)) dX0_addStrap_60 oI_1 ?_
          refine A_putz lf_X0_24 rfl rfl (Or.inr rfl) dX0_addStrap_61 ?_
          refine A_aload_n dX0_addStrap_64 rfl ?_
          refine A_dup dX0_addStrap_65 rfl ?_
          refine A_geti lf_X0_71 rfl rfl dX0_addStrap_66 ?_
          refine A_dup_x1 dX0_addStrap_69 rfl rfl ?_
          refine A_iconst (v := (1 : Int32)) dX0_addStrap_70 oI_1 ?_
          refine A_iadd dX0_addStrap_71 ?_
          refine A_puti lf_X0_71 rfl rfl dX0_addStrap_72 ?_
          exact A_iret rfl dX0_addStrap_75
theorem a_X0_addStrap {l : Launch}  (x1 : Int32) (x2 : Int32) (M : xM)  : AM SC l yX0_addStrap cX0_addStrap 3 (some .int) 3 ki [xr 1, xi x1, xi x2] M (F_X0_addStrap  x1 x2  M) :=
  AM.of (L0 := [some (xr 1), some (xi x1), some (xi x2)]) (w_X0_addStrap (l := l) x1 x2  M ) (by decide +kernel) rfl (Nat.le_of_ble_eq_true rfl) ⟨rfl, rfl, rfl, trivial⟩
def F_X0_dropStrap     (M : xM) : Option (Int32 × xM) :=
  (if (M 1 2) = 0 then
  some ((-1 : Int32), M)
  else
  some (((xset (xset M 1 2 ((M 1 2) - (1 : Int32))) 1 8 (1 : Int32)) 1 2), (xset (xset M 1 2 ((M 1 2) - (1 : Int32))) 1 8 (1 : Int32))))
set_option maxRecDepth 100000 in
set_option maxHeartbeats 4000000 in
theorem w_X0_dropStrap {l : Launch}      (M : xM)  : AW SC l RX0 cX0_dropStrap 1 (some .int) 0 ki (F_X0_dropStrap   M) 0 [some (xr 1)] [] M := by
  unfold F_X0_dropStrap
  refine A_aload_n dX0_dropStrap_0 rfl ?_
  refine A_geti lf_X0_71 rfl rfl dX0_dropStrap_1 ?_
  refine A_if_ne (tgt := 9) dX0_dropStrap_4 (by decide) (fun _ => ?_) (fun _ => ?_)
  · refine A_iconst (v := (-1 : Int32)) dX0_dropStrap_7 oI_m1 ?_
    exact A_iret rfl dX0_dropStrap_8
  · refine A_aload_n dX0_dropStrap_9 rfl ?_
    refine A_dup dX0_dropStrap_10 rfl ?_
    refine A_geti lf_X0_71 rfl rfl dX0_dropStrap_11 ?_
    refine A_iconst (v := (1 : Int32)) dX0_dropStrap_14 oI_1 ?_
    refine A_isub dX0_dropStrap_15 ?_
    refine A_puti lf_X0_71 rfl rfl dX0_dropStrap_16 ?_
    refine A_aload_n dX0_dropStrap_19 rfl ?_
    refine A_iconst (v := (1 : Int32)) dX0_dropStrap_20 oI_1 ?_
    refine A_putz lf_X0_24 rfl rfl (Or.inr rfl) dX0_dropStrap_21 ?_
    refine A_aload_n dX0_dropStrap_24 rfl ?_
    refine A_geti lf_X0_71 rfl rfl dX0_dropStrap_25 ?_
    exact A_iret rfl dX0_dropStrap_28
theorem a_X0_dropStrap {l : Launch}   (M : xM)  : AM SC l yX0_dropStrap cX0_dropStrap 1 (some .int) 0 ki [xr 1] M (F_X0_dropStrap    M) :=
  AM.of (L0 := [some (xr 1)]) (w_X0_dropStrap (l := l)   M ) (by decide +kernel) rfl (Nat.le_of_ble_eq_true rfl) ⟨rfl, trivial⟩
def P_X0_leversOf  (x1 : Int32)   (M : xM) : Int32 :=
  (P_X1_at 11 6 x1 M)
set_option maxRecDepth 100000 in
set_option maxHeartbeats 4000000 in
theorem w_X0_leversOf {l : Launch} (x1 : Int32)     (M : xM)  : AW SC l RX0 cX0_leversOf 2 (some .int) 1 ki (some (P_X0_leversOf x1  M, M)) 0 [some (xr 1), some (xi x1)] [] M := by
  unfold P_X0_leversOf
  refine A_aload_n dX0_leversOf_0 rfl ?_
  refine A_getr lf_X0_11 rfl rfl dX0_leversOf_1 ?_
  refine A_iload_n dX0_leversOf_4 rfl ?_
  refine A_callSp (a_X1_at (S := SC) (l := l) _ _ _ _ rfl) lc_X0_74 rfl (by decide) (Nat.le_of_ble_eq_true rfl) rfl dX0_leversOf_5 ?_
  exact A_iret rfl dX0_leversOf_8
theorem a_X0_leversOf {l : Launch}  (x1 : Int32) (M : xM)  : AM SC l yX0_leversOf cX0_leversOf 2 (some .int) 1 ki [xr 1, xi x1] M (some (P_X0_leversOf  x1  M, M)) :=
  AM.of (L0 := [some (xr 1), some (xi x1)]) (w_X0_leversOf (l := l) x1  M ) (by decide +kernel) rfl (Nat.le_of_ble_eq_true rfl) ⟨rfl, rfl, trivial⟩
def P_X0_mostOf  (x1 : Int32)   (M : xM) : Int32 :=
  (P_X1_at 12 6 x1 M)
set_option maxRecDepth 100000 in
set_option maxHeartbeats 4000000 in
theorem w_X0_mostOf {l : Launch} (x1 : Int32)     (M : xM)  : AW SC l RX0 cX0_mostOf 2 (some .int) 1 ki (some (P_X0_mostOf x1  M, M)) 0 [some (xr 1), some (xi x1)] [] M := by
  unfold P_X0_mostOf
  refine A_aload_n dX0_mostOf_0 rfl ?_
  refine A_getr lf_X0_15 rfl rfl dX0_mostOf_1 ?_
  refine A_iload_n dX0_mostOf_4 rfl ?_
  refine A_callSp (a_X1_at (S := SC) (l := l) _ _ _ _ rfl) lc_X0_74 rfl (by decide) (Nat.le_of_ble_eq_true rfl) rfl dX0_mostOf_5 ?_
  exact A_iret rfl dX0_mostOf_8
theorem a_X0_mostOf {l : Launch}  (x1 : Int32) (M : xM)  : AM SC l yX0_mostOf cX0_mostOf 2 (some .int) 1 ki [xr 1, xi x1] M (some (P_X0_mostOf  x1  M, M)) :=
  AM.of (L0 := [some (xr 1), some (xi x1)]) (w_X0_mostOf (l := l) x1  M ) (by decide +kernel) rfl (Nat.le_of_ble_eq_true rfl) ⟨rfl, rfl, trivial⟩
def P_X0_isRuled  (x1 : Int32)   (M : xM) : Int32 :=
  (P_X1_has (M 1 7) x1 M)
set_option maxRecDepth 100000 in
set_option maxHeartbeats 4000000 in
theorem w_X0_isRuled {l : Launch} (x1 : Int32)     (M : xM)  : AW SC l RX0 cX0_isRuled 2 (some .boolean) 1 ki (some (P_X0_isRuled x1  M, M)) 0 [some (xr 1), some (xi x1)] [] M := by
  unfold P_X0_isRuled
  refine A_aload_n dX0_isRuled_0 rfl ?_
  refine A_geti lf_X0_59 rfl rfl dX0_isRuled_1 ?_
  refine A_iload_n dX0_isRuled_4 rfl ?_
  refine A_callSp (a_X1_has (S := SC) (l := l) _ _ _ ) lc_X0_78 rfl (by decide) (Nat.le_of_ble_eq_true rfl) rfl dX0_isRuled_5 ?_
  exact A_zret' rfl (zP_X1_has _ _ _) dX0_isRuled_8
theorem a_X0_isRuled {l : Launch}  (x1 : Int32) (M : xM)  : AM SC l yX0_isRuled cX0_isRuled 2 (some .boolean) 1 ki [xr 1, xi x1] M (some (P_X0_isRuled  x1  M, M)) :=
  AM.of (L0 := [some (xr 1), some (xi x1)]) (w_X0_isRuled (l := l) x1  M ) (by decide +kernel) rfl (Nat.le_of_ble_eq_true rfl) ⟨rfl, rfl, trivial⟩
theorem zP_X0_isRuled (x1 : Int32) (M : xM) : P_X0_isRuled x1 M = 0 ∨ P_X0_isRuled x1 M = 1 := by
  unfold P_X0_isRuled
  repeat' split
  all_goals first | decide | with_reducible exact zP_X1_has _ _ _
def F_X0_officeOf_b2 (fu : Nat)  (x1 : Int32)  : Nat → Int32 → xM → Option (Int32 × xM)
  | 0, _, _ => none
  | n + 1, x2, M =>
    (if (M 1 1) ≤ x2 then
    some ((-1 : Int32), M)
    else
    (if (P_X1_has (P_X0_leversOf x2 M) x1 M) = 0 then
    F_X0_officeOf_b2 fu x1 n (x2 + (1 : Int32)) M
    else
    some (x2, M)))
set_option maxRecDepth 100000 in
set_option maxHeartbeats 4000000 in
theorem a_X0_officeOf_b2 {l : Launch} (fu : Nat) (x1 : Int32)    : ∀ (n : Nat) (x2 : Int32) (M : xM), AW SC l RX0 cX0_officeOf 3 (some .int) 2 ki (F_X0_officeOf_b2 fu x1 n x2 M) 2 [some (xr 1), some (xi x1), some (xi x2)] [] M := by
  intro n
  induction n with
  | zero =>
    intro x2 M
    exact AW.none
  | succ n ih =>
    intro x2 M
    rw [F_X0_officeOf_b2]
    refine A_iload_n dX0_officeOf_2 rfl ?_
    refine A_aload_n dX0_officeOf_3 rfl ?_
    refine A_geti lf_X0_52 rfl rfl dX0_officeOf_4 ?_
    refine A_icmp_ge (tgt := 30) dX0_officeOf_7 (by decide) (fun _ => ?_) (fun _ => ?_)
    · refine A_iconst (v := (-1 : Int32)) dX0_officeOf_30 oI_m1 ?_
      exact A_iret rfl dX0_officeOf_31
    · refine A_aload_n dX0_officeOf_10 rfl ?_
      refine A_iload_n dX0_officeOf_11 rfl ?_
      refine A_callVp (a_X0_leversOf (l := l) _ _ ) lc_X0_82 rfl rfl (by decide) (Nat.le_of_ble_eq_true rfl) rfl dX0_officeOf_12 ?_
      refine A_iload_n dX0_officeOf_15 rfl ?_
      refine A_callSp (a_X1_has (S := SC) (l := l) _ _ _ ) lc_X0_78 rfl (by decide) (Nat.le_of_ble_eq_true rfl) rfl dX0_officeOf_16 ?_
      refine A_if_eq (tgt := 24) dX0_officeOf_19 (by decide) (fun _ => ?_) (fun _ => ?_)
      · refine A_iinc dX0_officeOf_24 rfl oI_1 (Nat.le_of_ble_eq_true rfl) rfl ?_
        refine A_goto (tgt := 2) dX0_officeOf_27 (by decide) ?_
        exact (ih _ _).sub ⟨rfl, rfl, rfl, trivial⟩
      · refine A_iload_n dX0_officeOf_22 rfl ?_
        exact A_iret rfl dX0_officeOf_23
def F_X0_officeOf (fu : Nat)  (x1 : Int32)   (M : xM) : Option (Int32 × xM) :=
  F_X0_officeOf_b2 fu x1 fu (0 : Int32) M
set_option maxRecDepth 100000 in
set_option maxHeartbeats 4000000 in
theorem w_X0_officeOf {l : Launch} (fu : Nat) (x1 : Int32)     (M : xM)  : AW SC l RX0 cX0_officeOf 3 (some .int) 2 ki (F_X0_officeOf fu x1  M) 0 [some (xr 1), some (xi x1), none] [] M := by
  unfold F_X0_officeOf
  refine A_iconst (v := (0 : Int32)) dX0_officeOf_0 oI_0 ?_
  refine A_istore_n dX0_officeOf_1 (Nat.le_of_ble_eq_true rfl) rfl ?_
  exact (a_X0_officeOf_b2 (l := l) fu x1  fu _ _).sub ⟨rfl, rfl, rfl, trivial⟩
theorem a_X0_officeOf {l : Launch} (fu : Nat)  (x1 : Int32) (M : xM)  : AM SC l yX0_officeOf cX0_officeOf 3 (some .int) 2 ki [xr 1, xi x1] M (F_X0_officeOf fu x1  M) :=
  AM.of (L0 := [some (xr 1), some (xi x1), none]) (w_X0_officeOf (l := l) fu x1  M ) (by decide +kernel) rfl (Nat.le_of_ble_eq_true rfl) ⟨rfl, rfl, trivial⟩
def F_X0_strapsAgainst_b73 (fu : Nat)  (x1 : Int32) (x2 : Int32) (k5 : Int32 → Int32 → xM → Option (Int32 × xM)) (x3 : Int32) (x4 : Int32) (M : xM) : Option (Int32 × xM) :=
  k5 x3 (x4 + (1 : Int32)) M
set_option maxRecDepth 100000 in
set_option maxHeartbeats 4000000 in
theorem a_X0_strapsAgainst_b73 {l : Launch} (fu : Nat) (x1 : Int32) (x2 : Int32)  {k5 : Int32 → Int32 → xM → Option (Int32 × xM)} (hk5 : ∀ (b0 : Int32) (b1 : Int32) (M : xM), AW SC l RX0 cX0_strapsAgainst 7 (some .int) 1 ki (k5 b0 b1 M) 5 [some (xr 1), some (xi x1), some (xi x2), some (xi b0), some (xi b1), none, none] [] M) (x3 : Int32) (x4 : Int32) (M : xM)  : AW SC l RX0 cX0_strapsAgainst 7 (some .int) 1 ki (F_X0_strapsAgainst_b73 fu x1 x2 k5 x3 x4 M) 73 [some (xr 1), some (xi x1), some (xi x2), some (xi x3), some (xi x4), none, none] [] M := by
  unfold F_X0_strapsAgainst_b73
  refine A_iinc dX0_strapsAgainst_73 rfl oI_1 (Nat.le_of_ble_eq_true rfl) rfl ?_
  refine A_goto (tgt := 5) dX0_strapsAgainst_76 (by decide) ?_
  exact (hk5 _ _ _).sub ⟨rfl, rfl, rfl, rfl, rfl, trivial⟩
def F_X0_strapsAgainst_b39 (fu : Nat)  (x1 : Int32) (x2 : Int32) (k5 : Int32 → Int32 → xM → Option (Int32 × xM)) (x3 : Int32) (x4 : Int32) (x5 : Int32) (s0 : Int32) (M : xM) : Option (Int32 × xM) :=
  (if s0 = 0 then
  (if (P_J6_bitCount_0f7a4 (x1 &&& x5) M) ≤ (P_X1_at 14 10 x4 M) then
  F_X0_strapsAgainst_b73 fu x1 x2 k5 x3 x4 M
  else
  F_X0_strapsAgainst_b73 fu x1 x2 k5 (x3 ||| (P_X1_bit x4 M)) x4 M)
  else
  F_X0_strapsAgainst_b73 fu x1 x2 k5 x3 x4 M)
set_option maxRecDepth 100000 in
set_option maxHeartbeats 4000000 in
theorem a_X0_strapsAgainst_b39 {l : Launch} (fu : Nat) (x1 : Int32) (x2 : Int32)  {k5 : Int32 → Int32 → xM → Option (Int32 × xM)} (hk5 : ∀ (b0 : Int32) (b1 : Int32) (M : xM), AW SC l RX0 cX0_strapsAgainst 7 (some .int) 1 ki (k5 b0 b1 M) 5 [some (xr 1), some (xi x1), some (xi x2), some (xi b0), some (xi b1), none, none] [] M) (x3 : Int32) (x4 : Int32) (x5 : Int32) (s0 : Int32) (M : xM)  : AW SC l RX0 cX0_strapsAgainst 7 (some .int) 1 ki (F_X0_strapsAgainst_b39 fu x1 x2 k5 x3 x4 x5 s0 M) 39 [some (xr 1), some (xi x1), some (xi x2), some (xi x3), some (xi x4), some (xi x5), none] [xi s0] M := by
  unfold F_X0_strapsAgainst_b39
  refine A_istore dX0_strapsAgainst_39 (Nat.le_of_ble_eq_true rfl) rfl ?_
  refine A_iload dX0_strapsAgainst_41 rfl ?_
  refine A_if_ne (tgt := 73) dX0_strapsAgainst_43 (by decide) (fun _ => ?_) (fun _ => ?_)
  · refine A_iload_n dX0_strapsAgainst_46 rfl ?_
    refine A_iload dX0_strapsAgainst_47 rfl ?_
    refine A_iand dX0_strapsAgainst_49 ?_
    refine A_callSp (a_J6_bitCount_0f7a4 (S := SC) (l := l) _ _ ) lc_X0_62 rfl (by decide) (Nat.le_of_ble_eq_true rfl) rfl dX0_strapsAgainst_50 ?_
    refine A_aload_n dX0_strapsAgainst_53 rfl ?_
    refine A_getr lf_X0_21 rfl rfl dX0_strapsAgainst_54 ?_
    refine A_iload dX0_strapsAgainst_57 rfl ?_
    refine A_callSp (a_X1_at (S := SC) (l := l) _ _ _ _ rfl) lc_X0_74 rfl (by decide) (Nat.le_of_ble_eq_true rfl) rfl dX0_strapsAgainst_59 ?_
    refine A_icmp_le (tgt := 73) dX0_strapsAgainst_62 (by decide) (fun _ => ?_) (fun _ => ?_)
    · exact (a_X0_strapsAgainst_b73 (l := l) fu x1 x2 hk5 _ _ _ ).sub ⟨rfl, rfl, rfl, rfl, rfl, trivial⟩
    · refine A_iload_n dX0_strapsAgainst_65 rfl ?_
      refine A_iload dX0_strapsAgainst_66 rfl ?_
      refine A_callSp (a_X1_bit (S := SC) (l := l) _ _ ) lc_X0_85 rfl (by decide) (Nat.le_of_ble_eq_true rfl) rfl dX0_strapsAgainst_68 ?_
      refine A_ior dX0_strapsAgainst_71 ?_
      refine A_istore_n dX0_strapsAgainst_72 (Nat.le_of_ble_eq_true rfl) rfl ?_
      exact (a_X0_strapsAgainst_b73 (l := l) fu x1 x2 hk5 _ _ _ ).sub ⟨rfl, rfl, rfl, rfl, rfl, trivial⟩
  · exact (a_X0_strapsAgainst_b73 (l := l) fu x1 x2 hk5 _ _ _ ).sub ⟨rfl, rfl, rfl, rfl, rfl, trivial⟩
def F_X0_strapsAgainst_b5 (fu : Nat)  (x1 : Int32) (x2 : Int32)  : Nat → Int32 → Int32 → xM → Option (Int32 × xM)
  | 0, _, _, _ => none
  | n + 1, x3, x4, M =>
    (if (M 1 2) ≤ x4 then
    some (x3, M)
    else
    (if ((P_X1_at 13 10 x4 M) &&& (x2 ^^^ (-1 : Int32))) = 0 then
    F_X0_strapsAgainst_b39 fu x1 x2 (F_X0_strapsAgainst_b5 fu x1 x2 n) x3 x4 (P_X1_at 13 10 x4 M) (1 : Int32) M
    else
    F_X0_strapsAgainst_b39 fu x1 x2 (F_X0_strapsAgainst_b5 fu x1 x2 n) x3 x4 (P_X1_at 13 10 x4 M) (0 : Int32) M))
set_option maxRecDepth 100000 in
set_option maxHeartbeats 4000000 in
theorem a_X0_strapsAgainst_b5 {l : Launch} (fu : Nat) (x1 : Int32) (x2 : Int32)    : ∀ (n : Nat) (x3 : Int32) (x4 : Int32) (M : xM), AW SC l RX0 cX0_strapsAgainst 7 (some .int) 1 ki (F_X0_strapsAgainst_b5 fu x1 x2 n x3 x4 M) 5 [some (xr 1), some (xi x1), some (xi x2), some (xi x3), some (xi x4), none, none] [] M := by
  intro n
  induction n with
  | zero =>
    intro x3 x4 M
    exact AW.none
  | succ n ih =>
    intro x3 x4 M
    rw [F_X0_strapsAgainst_b5]
    refine A_iload dX0_strapsAgainst_5 rfl ?_
    refine A_aload_n dX0_strapsAgainst_7 rfl ?_
    refine A_geti lf_X0_71 rfl rfl dX0_strapsAgainst_8 ?_
    refine A_icmp_ge (tgt := 79) dX0_strapsAgainst_11 (by decide) (fun _ => ?_) (fun _ => ?_)
    · refine A_iload_n dX0_strapsAgainst_79 rfl ?_
      exact A_iret rfl dX0_strapsAgainst_80
    · refine A_aload_n dX0_strapsAgainst_14 rfl ?_
      refine A_getr lf_X0_18 rfl rfl dX0_strapsAgainst_15 ?_
      refine A_iload dX0_strapsAgainst_18 rfl ?_
      refine A_callSp (a_X1_at (S := SC) (l := l) _ _ _ _ rfl) lc_X0_74 rfl (by decide) (Nat.le_of_ble_eq_true rfl) rfl dX0_strapsAgainst_20 ?_
      refine A_istore dX0_strapsAgainst_23 (Nat.le_of_ble_eq_true rfl) rfl ?_
      refine A_iload dX0_strapsAgainst_25 rfl ?_
      refine A_iload_n dX0_strapsAgainst_27 rfl ?_
      refine A_iconst (v := (-1 : Int32)) dX0_strapsAgainst_28 oI_m1 ?_
      refine A_ixor dX0_strapsAgainst_29 ?_
      refine A_iand dX0_strapsAgainst_30 ?_
      refine A_if_ne (tgt := 38) dX0_strapsAgainst_31 (by decide) (fun _ => ?_) (fun _ => ?_)
      · refine A_iconst (v := (1 : Int32)) dX0_strapsAgainst_34 oI_1 ?_
        refine A_goto (tgt := 39) dX0_strapsAgainst_35 (by decide) ?_
        exact (a_X0_strapsAgainst_b39 (l := l) fu x1 x2 ih _ _ _ _ _ ).sub ⟨rfl, rfl, rfl, rfl, rfl, rfl, trivial⟩
      · refine A_iconst (v := (0 : Int32)) dX0_strapsAgainst_38 oI_0 ?_
        exact (a_X0_strapsAgainst_b39 (l := l) fu x1 x2 ih _ _ _ _ _ ).sub ⟨rfl, rfl, rfl, rfl, rfl, rfl, trivial⟩
def F_X0_strapsAgainst (fu : Nat)  (x1 : Int32) (x2 : Int32)   (M : xM) : Option (Int32 × xM) :=
  F_X0_strapsAgainst_b5 fu x1 x2 fu (0 : Int32) (0 : Int32) M
set_option maxRecDepth 100000 in
set_option maxHeartbeats 4000000 in
theorem w_X0_strapsAgainst {l : Launch} (fu : Nat) (x1 : Int32) (x2 : Int32)     (M : xM)  : AW SC l RX0 cX0_strapsAgainst 7 (some .int) 1 ki (F_X0_strapsAgainst fu x1 x2  M) 0 [some (xr 1), some (xi x1), some (xi x2), none, none, none, none] [] M := by
  unfold F_X0_strapsAgainst
  refine A_iconst (v := (0 : Int32)) dX0_strapsAgainst_0 oI_0 ?_
  refine A_istore_n dX0_strapsAgainst_1 (Nat.le_of_ble_eq_true rfl) rfl ?_
  refine A_iconst (v := (0 : Int32)) dX0_strapsAgainst_2 oI_0 ?_
  refine A_istore dX0_strapsAgainst_3 (Nat.le_of_ble_eq_true rfl) rfl ?_
  exact (a_X0_strapsAgainst_b5 (l := l) fu x1 x2  fu _ _ _).sub ⟨rfl, rfl, rfl, rfl, rfl, trivial⟩
theorem a_X0_strapsAgainst {l : Launch} (fu : Nat)  (x1 : Int32) (x2 : Int32) (M : xM)  : AM SC l yX0_strapsAgainst cX0_strapsAgainst 7 (some .int) 1 ki [xr 1, xi x1, xi x2] M (F_X0_strapsAgainst fu x1 x2  M) :=
  AM.of (L0 := [some (xr 1), some (xi x1), some (xi x2), none, none, none, none]) (w_X0_strapsAgainst (l := l) fu x1 x2  M ) (by decide +kernel) rfl (Nat.le_of_ble_eq_true rfl) ⟨rfl, rfl, rfl, trivial⟩
def F_X0_isLet (fu : Nat)  (x1 : Int32)   (M : xM) : Option (Int32 × xM) :=
  (F_X0_strapsAgainst fu x1 (0 : Int32) M).bind fun q1 =>
  (if q1.1 = 0 then
  some ((1 : Int32), q1.2)
  else
  some ((0 : Int32), q1.2))
set_option maxRecDepth 100000 in
set_option maxHeartbeats 4000000 in
theorem w_X0_isLet {l : Launch} (fu : Nat) (x1 : Int32)     (M : xM)  : AW SC l RX0 cX0_isLet 2 (some .boolean) 2 ki (F_X0_isLet fu x1  M) 0 [some (xr 1), some (xi x1)] [] M := by
  unfold F_X0_isLet
  refine A_aload_n dX0_isLet_0 rfl ?_
  refine A_iload_n dX0_isLet_1 rfl ?_
  refine A_iconst (v := (0 : Int32)) dX0_isLet_2 oI_0 ?_
  refine A_callVi (a_X0_strapsAgainst (l := l) fu _ _ _ ) lc_X0_88 rfl rfl (by decide) (Nat.le_of_ble_eq_true rfl) rfl dX0_isLet_3 (fun q1 Mq1 hq1 => ?_)
  refine A_if_ne (tgt := 13) dX0_isLet_6 (by decide) (fun _ => ?_) (fun _ => ?_)
  · refine A_iconst (v := (1 : Int32)) dX0_isLet_9 oI_1 ?_
    refine A_goto (tgt := 14) dX0_isLet_10 (by decide) ?_
    exact A_zret' rfl (Or.inr rfl) dX0_isLet_14
  · refine A_iconst (v := (0 : Int32)) dX0_isLet_13 oI_0 ?_
    exact A_zret' rfl (Or.inl rfl) dX0_isLet_14
theorem a_X0_isLet {l : Launch} (fu : Nat)  (x1 : Int32) (M : xM)  : AM SC l yX0_isLet cX0_isLet 2 (some .boolean) 2 ki [xr 1, xi x1] M (F_X0_isLet fu x1  M) :=
  AM.of (L0 := [some (xr 1), some (xi x1)]) (w_X0_isLet (l := l) fu x1  M ) (by decide +kernel) rfl (Nat.le_of_ble_eq_true rfl) ⟨rfl, rfl, trivial⟩
def F_X0_isLawful_b2 (fu : Nat)  (x1 : Int32)  : Nat → Int32 → xM → Option (Int32 × xM)
  | 0, _, _ => none
  | n + 1, x2, M =>
    (if (M 1 1) ≤ x2 then
    some ((1 : Int32), M)
    else
    (if (P_J6_bitCount_0f7a4 (x1 &&& (P_X0_leversOf x2 M)) M) ≤ (P_X0_mostOf x2 M) then
    F_X0_isLawful_b2 fu x1 n (x2 + (1 : Int32)) M
    else
    some ((0 : Int32), M)))
set_option maxRecDepth 100000 in
set_option maxHeartbeats 4000000 in
theorem a_X0_isLawful_b2 {l : Launch} (fu : Nat) (x1 : Int32)    : ∀ (n : Nat) (x2 : Int32) (M : xM), AW SC l RX0 cX0_isLawful 3 (some .boolean) 2 ki (F_X0_isLawful_b2 fu x1 n x2 M) 2 [some (xr 1), some (xi x1), some (xi x2)] [] M := by
  intro n
  induction n with
  | zero =>
    intro x2 M
    exact AW.none
  | succ n ih =>
    intro x2 M
    rw [F_X0_isLawful_b2]
    refine A_iload_n dX0_isLawful_2 rfl ?_
    refine A_aload_n dX0_isLawful_3 rfl ?_
    refine A_geti lf_X0_52 rfl rfl dX0_isLawful_4 ?_
    refine A_icmp_ge (tgt := 36) dX0_isLawful_7 (by decide) (fun _ => ?_) (fun _ => ?_)
    · refine A_iconst (v := (1 : Int32)) dX0_isLawful_36 oI_1 ?_
      exact A_zret' rfl (Or.inr rfl) dX0_isLawful_37
    · refine A_iload_n dX0_isLawful_10 rfl ?_
      refine A_aload_n dX0_isLawful_11 rfl ?_
      refine A_iload_n dX0_isLawful_12 rfl ?_
      refine A_callVp (a_X0_leversOf (l := l) _ _ ) lc_X0_82 rfl rfl (by decide) (Nat.le_of_ble_eq_true rfl) rfl dX0_isLawful_13 ?_
      refine A_iand dX0_isLawful_16 ?_
      refine A_callSp (a_J6_bitCount_0f7a4 (S := SC) (l := l) _ _ ) lc_X0_62 rfl (by decide) (Nat.le_of_ble_eq_true rfl) rfl dX0_isLawful_17 ?_
      refine A_aload_n dX0_isLawful_20 rfl ?_
      refine A_iload_n dX0_isLawful_21 rfl ?_
      refine A_callVp (a_X0_mostOf (l := l) _ _ ) lc_X0_92 rfl rfl (by decide) (Nat.le_of_ble_eq_true rfl) rfl dX0_isLawful_22 ?_
      refine A_icmp_le (tgt := 30) dX0_isLawful_25 (by decide) (fun _ => ?_) (fun _ => ?_)
      · refine A_iinc dX0_isLawful_30 rfl oI_1 (Nat.le_of_ble_eq_true rfl) rfl ?_
        refine A_goto (tgt := 2) dX0_isLawful_33 (by decide) ?_
        exact (ih _ _).sub ⟨rfl, rfl, rfl, trivial⟩
      · refine A_iconst (v := (0 : Int32)) dX0_isLawful_28 oI_0 ?_
        exact A_zret' rfl (Or.inl rfl) dX0_isLawful_29
def F_X0_isLawful (fu : Nat)  (x1 : Int32)   (M : xM) : Option (Int32 × xM) :=
  F_X0_isLawful_b2 fu x1 fu (0 : Int32) M
set_option maxRecDepth 100000 in
set_option maxHeartbeats 4000000 in
theorem w_X0_isLawful {l : Launch} (fu : Nat) (x1 : Int32)     (M : xM)  : AW SC l RX0 cX0_isLawful 3 (some .boolean) 2 ki (F_X0_isLawful fu x1  M) 0 [some (xr 1), some (xi x1), none] [] M := by
  unfold F_X0_isLawful
  refine A_iconst (v := (0 : Int32)) dX0_isLawful_0 oI_0 ?_
  refine A_istore_n dX0_isLawful_1 (Nat.le_of_ble_eq_true rfl) rfl ?_
  exact (a_X0_isLawful_b2 (l := l) fu x1  fu _ _).sub ⟨rfl, rfl, rfl, trivial⟩
theorem a_X0_isLawful {l : Launch} (fu : Nat)  (x1 : Int32) (M : xM)  : AM SC l yX0_isLawful cX0_isLawful 3 (some .boolean) 2 ki [xr 1, xi x1] M (F_X0_isLawful fu x1  M) :=
  AM.of (L0 := [some (xr 1), some (xi x1), none]) (w_X0_isLawful (l := l) fu x1  M ) (by decide +kernel) rfl (Nat.le_of_ble_eq_true rfl) ⟨rfl, rfl, trivial⟩
def F_X0_holdsAll_b33 (fu : Nat)  (x1 : Int32) (k2 : Int32 → xM → Option (Int32 × xM)) (x2 : Int32) (M : xM) : Option (Int32 × xM) :=
  k2 (x2 + (1 : Int32)) M
set_option maxRecDepth 100000 in
set_option maxHeartbeats 4000000 in
theorem a_X0_holdsAll_b33 {l : Launch} (fu : Nat) (x1 : Int32)  {k2 : Int32 → xM → Option (Int32 × xM)} (hk2 : ∀ (b0 : Int32) (M : xM), AW SC l RX0 cX0_holdsAll 3 (some .boolean) 2 ki (k2 b0 M) 2 [some (xr 1), some (xi x1), some (xi b0)] [] M) (x2 : Int32) (M : xM)  : AW SC l RX0 cX0_holdsAll 3 (some .boolean) 2 ki (F_X0_holdsAll_b33 fu x1 k2 x2 M) 33 [some (xr 1), some (xi x1), some (xi x2)] [] M := by
  unfold F_X0_holdsAll_b33
  refine A_iinc dX0_holdsAll_33 rfl oI_1 (Nat.le_of_ble_eq_true rfl) rfl ?_
  refine A_goto (tgt := 2) dX0_holdsAll_36 (by decide) ?_
  exact (hk2 _ _).sub ⟨rfl, rfl, rfl, trivial⟩
def F_X0_holdsAll_b2 (fu : Nat)  (x1 : Int32)  : Nat → Int32 → xM → Option (Int32 × xM)
  | 0, _, _ => none
  | n + 1, x2, M =>
    (if (P_X1_all (M 1 2) M) < x2 then
    some ((1 : Int32), M)
    else
    (if (P_X1_at 15 1024 x2 M) = (1 : Int32) then
    (if (x2 &&& x1) = 0 then
    some ((0 : Int32), M)
    else
    F_X0_holdsAll_b33 fu x1 (F_X0_holdsAll_b2 fu x1 n) x2 M)
    else
    F_X0_holdsAll_b33 fu x1 (F_X0_holdsAll_b2 fu x1 n) x2 M))
set_option maxRecDepth 100000 in
set_option maxHeartbeats 4000000 in
theorem a_X0_holdsAll_b2 {l : Launch} (fu : Nat) (x1 : Int32)    : ∀ (n : Nat) (x2 : Int32) (M : xM), AW SC l RX0 cX0_holdsAll 3 (some .boolean) 2 ki (F_X0_holdsAll_b2 fu x1 n x2 M) 2 [some (xr 1), some (xi x1), some (xi x2)] [] M := by
  intro n
  induction n with
  | zero =>
    intro x2 M
    exact AW.none
  | succ n ih =>
    intro x2 M
    rw [F_X0_holdsAll_b2]
    refine A_iload_n dX0_holdsAll_2 rfl ?_
    refine A_aload_n dX0_holdsAll_3 rfl ?_
    refine A_geti lf_X0_71 rfl rfl dX0_holdsAll_4 ?_
    refine A_callSp (a_X1_all (S := SC) (l := l) _ _ ) lc_X0_44 rfl (by decide) (Nat.le_of_ble_eq_true rfl) rfl dX0_holdsAll_7 ?_
    refine A_icmp_gt (tgt := 39) dX0_holdsAll_10 (by decide) (fun _ => ?_) (fun _ => ?_)
    · refine A_iconst (v := (1 : Int32)) dX0_holdsAll_39 oI_1 ?_
      exact A_zret' rfl (Or.inr rfl) dX0_holdsAll_40
    · refine A_aload_n dX0_holdsAll_13 rfl ?_
      refine A_getr lf_X0_28 rfl rfl dX0_holdsAll_14 ?_
      refine A_iload_n dX0_holdsAll_17 rfl ?_
      refine A_callSp (a_X1_at (S := SC) (l := l) _ _ _ _ rfl) lc_X0_74 rfl (by decide) (Nat.le_of_ble_eq_true rfl) rfl dX0_holdsAll_18 ?_
      refine A_iconst (v := (1 : Int32)) dX0_holdsAll_21 oI_1 ?_
      refine A_icmp_ne (tgt := 33) dX0_holdsAll_22 (by decide) (fun _ => ?_) (fun _ => ?_)
      · refine A_iload_n dX0_holdsAll_25 rfl ?_
        refine A_iload_n dX0_holdsAll_26 rfl ?_
        refine A_iand dX0_holdsAll_27 ?_
        refine A_if_ne (tgt := 33) dX0_holdsAll_28 (by decide) (fun _ => ?_) (fun _ => ?_)
        · refine A_iconst (v := (0 : Int32)) dX0_holdsAll_31 oI_0 ?_
          exact A_zret' rfl (Or.inl rfl) dX0_holdsAll_32
        · exact (a_X0_holdsAll_b33 (l := l) fu x1 ih _ _ ).sub ⟨rfl, rfl, rfl, trivial⟩
      · exact (a_X0_holdsAll_b33 (l := l) fu x1 ih _ _ ).sub ⟨rfl, rfl, rfl, trivial⟩
def F_X0_holdsAll (fu : Nat)  (x1 : Int32)   (M : xM) : Option (Int32 × xM) :=
  F_X0_holdsAll_b2 fu x1 fu (1 : Int32) M
set_option maxRecDepth 100000 in
set_option maxHeartbeats 4000000 in
theorem w_X0_holdsAll {l : Launch} (fu : Nat) (x1 : Int32)     (M : xM)  : AW SC l RX0 cX0_holdsAll 3 (some .boolean) 2 ki (F_X0_holdsAll fu x1  M) 0 [some (xr 1), some (xi x1), none] [] M := by
  unfold F_X0_holdsAll
  refine A_iconst (v := (1 : Int32)) dX0_holdsAll_0 oI_1 ?_
  refine A_istore_n dX0_holdsAll_1 (Nat.le_of_ble_eq_true rfl) rfl ?_
  exact (a_X0_holdsAll_b2 (l := l) fu x1  fu _ _).sub ⟨rfl, rfl, rfl, trivial⟩
theorem a_X0_holdsAll {l : Launch} (fu : Nat)  (x1 : Int32) (M : xM)  : AM SC l yX0_holdsAll cX0_holdsAll 3 (some .boolean) 2 ki [xr 1, xi x1] M (F_X0_holdsAll fu x1  M) :=
  AM.of (L0 := [some (xr 1), some (xi x1), none]) (w_X0_holdsAll (l := l) fu x1  M ) (by decide +kernel) rfl (Nat.le_of_ble_eq_true rfl) ⟨rfl, rfl, trivial⟩
def F_X0_fewestStraps_b39 (fu : Nat)   (k10 : Int32 → Int32 → xM → Option (Int32 × xM)) (x1 : Int32) (x2 : Int32) (M : xM) : Option (Int32 × xM) :=
  k10 x1 (x2 + (1 : Int32)) M
set_option maxRecDepth 100000 in
set_option maxHeartbeats 4000000 in
theorem a_X0_fewestStraps_b39 {l : Launch} (fu : Nat)   {k10 : Int32 → Int32 → xM → Option (Int32 × xM)} (hk10 : ∀ (b0 : Int32) (b1 : Int32) (M : xM), AW SC l RX0 cX0_fewestStraps 3 (some .int) 3 ki (k10 b0 b1 M) 10 [some (xr 1), some (xi b0), some (xi b1)] [] M) (x1 : Int32) (x2 : Int32) (M : xM)  : AW SC l RX0 cX0_fewestStraps 3 (some .int) 3 ki (F_X0_fewestStraps_b39 fu k10 x1 x2 M) 39 [some (xr 1), some (xi x1), some (xi x2)] [] M := by
  unfold F_X0_fewestStraps_b39
  refine A_iinc dX0_fewestStraps_39 rfl oI_1 (Nat.le_of_ble_eq_true rfl) rfl ?_
  refine A_goto (tgt := 10) dX0_fewestStraps_42 (by decide) ?_
  exact (hk10 _ _ _).sub ⟨rfl, rfl, rfl, trivial⟩
def F_X0_fewestStraps_b10 (fu : Nat)    : Nat → Int32 → Int32 → xM → Option (Int32 × xM)
  | 0, _, _, _ => none
  | n + 1, x1, x2, M =>
    (if (P_X1_all (M 1 2) M) < x2 then
    some (x1, M)
    else
    (if (P_X1_better x2 x1 M) = 0 then
    F_X0_fewestStraps_b39 fu (F_X0_fewestStraps_b10 fu n) x1 x2 M
    else
    (F_X0_holdsAll fu x2 M).bind fun q1 =>
    (if q1.1 = 0 then
    F_X0_fewestStraps_b39 fu (F_X0_fewestStraps_b10 fu n) x1 x2 q1.2
    else
    F_X0_fewestStraps_b39 fu (F_X0_fewestStraps_b10 fu n) x2 x2 q1.2)))
set_option maxRecDepth 100000 in
set_option maxHeartbeats 4000000 in
theorem a_X0_fewestStraps_b10 {l : Launch} (fu : Nat)     : ∀ (n : Nat) (x1 : Int32) (x2 : Int32) (M : xM), AW SC l RX0 cX0_fewestStraps 3 (some .int) 3 ki (F_X0_fewestStraps_b10 fu n x1 x2 M) 10 [some (xr 1), some (xi x1), some (xi x2)] [] M := by
  intro n
  induction n with
  | zero =>
    intro x1 x2 M
    exact AW.none
  | succ n ih =>
    intro x1 x2 M
    rw [F_X0_fewestStraps_b10]
    refine A_iload_n dX0_fewestStraps_10 rfl ?_
    refine A_aload_n dX0_fewestStraps_11 rfl ?_
    refine A_geti lf_X0_71 rfl rfl dX0_fewestStraps_12 ?_
    refine A_callSp (a_X1_all (S := SC) (l := l) _ _ ) lc_X0_44 rfl (by decide) (Nat.le_of_ble_eq_true rfl) rfl dX0_fewestStraps_15 ?_
    refine A_icmp_gt (tgt := 45) dX0_fewestStraps_18 (by decide) (fun _ => ?_) (fun _ => ?_)
    · refine A_iload_n dX0_fewestStraps_45 rfl ?_
      exact A_iret rfl dX0_fewestStraps_46
    · refine A_iload_n dX0_fewestStraps_21 rfl ?_
      refine A_iload_n dX0_fewestStraps_22 rfl ?_
      refine A_callSp (a_X1_better (S := SC) (l := l) _ _ _ ) lc_X0_117 rfl (by decide) (Nat.le_of_ble_eq_true rfl) rfl dX0_fewestStraps_23 ?_
      refine A_if_eq (tgt := 39) dX0_fewestStraps_26 (by decide) (fun _ => ?_) (fun _ => ?_)
      · exact (a_X0_fewestStraps_b39 (l := l) fu ih _ _ _ ).sub ⟨rfl, rfl, rfl, trivial⟩
      · refine A_aload_n dX0_fewestStraps_29 rfl ?_
        refine A_iload_n dX0_fewestStraps_30 rfl ?_
        refine A_callVi (a_X0_holdsAll (l := l) fu _ _ ) lc_X0_120 rfl rfl (by decide) (Nat.le_of_ble_eq_true rfl) rfl dX0_fewestStraps_31 (fun q1 Mq1 hq1 => ?_)
        refine A_if_eq (tgt := 39) dX0_fewestStraps_34 (by decide) (fun _ => ?_) (fun _ => ?_)
        · exact (a_X0_fewestStraps_b39 (l := l) fu ih _ _ _ ).sub ⟨rfl, rfl, rfl, trivial⟩
        · refine A_iload_n dX0_fewestStraps_37 rfl ?_
          refine A_istore_n dX0_fewestStraps_38 (Nat.le_of_ble_eq_true rfl) rfl ?_
          exact (a_X0_fewestStraps_b39 (l := l) fu ih _ _ _ ).sub ⟨rfl, rfl, rfl, trivial⟩
def F_X0_fewestStraps (fu : Nat)     (M : xM) : Option (Int32 × xM) :=
  F_X0_fewestStraps_b10 fu fu (P_X1_all (M 1 2) M) (0 : Int32) M
set_option maxRecDepth 100000 in
set_option maxHeartbeats 4000000 in
theorem w_X0_fewestStraps {l : Launch} (fu : Nat)      (M : xM)  : AW SC l RX0 cX0_fewestStraps 3 (some .int) 3 ki (F_X0_fewestStraps fu  M) 0 [some (xr 1), none, none] [] M := by
  unfold F_X0_fewestStraps
  refine A_aload_n dX0_fewestStraps_0 rfl ?_
  refine A_geti lf_X0_71 rfl rfl dX0_fewestStraps_1 ?_
  refine A_callSp (a_X1_all (S := SC) (l := l) _ _ ) lc_X0_44 rfl (by decide) (Nat.le_of_ble_eq_true rfl) rfl dX0_fewestStraps_4 ?_
  refine A_istore_n dX0_fewestStraps_7 (Nat.le_of_ble_eq_true rfl) rfl ?_
  refine A_iconst (v := (0 : Int32)) dX0_fewestStraps_8 oI_0 ?_
  refine A_istore_n dX0_fewestStraps_9 (Nat.le_of_ble_eq_true rfl) rfl ?_
  exact (a_X0_fewestStraps_b10 (l := l) fu  fu _ _ _).sub ⟨rfl, rfl, rfl, trivial⟩
theorem a_X0_fewestStraps {l : Launch} (fu : Nat)   (M : xM)  : AM SC l yX0_fewestStraps cX0_fewestStraps 3 (some .int) 3 ki [xr 1] M (F_X0_fewestStraps fu   M) :=
  AM.of (L0 := [some (xr 1), none, none]) (w_X0_fewestStraps (l := l) fu  M ) (by decide +kernel) rfl (Nat.le_of_ble_eq_true rfl) ⟨rfl, trivial⟩
def F_X0_sweep_b138 (fu : Nat)   (k49 : Int32 → xM → Option (xM)) (x1 : Int32) (M : xM) : Option (xM) :=
  k49 (x1 + (1 : Int32)) M
set_option maxRecDepth 100000 in
set_option maxHeartbeats 4000000 in
theorem a_X0_sweep_b138 {l : Launch} (fu : Nat)   {k49 : Int32 → xM → Option (xM)} (hk49 : ∀ (b0 : Int32) (M : xM), AW SC l RX0 cX0_sweep 4 none 4 kv (k49 b0 M) 49 [some (xr 1), some (xi b0), none, none] [] M) (x1 : Int32) (M : xM)  : AW SC l RX0 cX0_sweep 4 none 4 kv (F_X0_sweep_b138 fu k49 x1 M) 138 [some (xr 1), some (xi x1), none, none] [] M := by
  unfold F_X0_sweep_b138
  refine A_iinc dX0_sweep_138 rfl oI_1 (Nat.le_of_ble_eq_true rfl) rfl ?_
  refine A_goto (tgt := 49) dX0_sweep_141 (by decide) ?_
  exact (hk49 _ _).sub ⟨rfl, rfl, trivial⟩
def F_X0_sweep_b117 (fu : Nat)   (k49 : Int32 → xM → Option (xM)) (x1 : Int32) (x2 : Int32) (x3 : Int32) (M : xM) : Option (xM) :=
  (if x2 = 0 then
  F_X0_sweep_b138 fu k49 x1 M
  else
  (if x3 = 0 then
  F_X0_sweep_b138 fu k49 x1 M
  else
  (if (M 1 11) = (-1 : Int32) then
  F_X0_sweep_b138 fu k49 x1 (xset M 1 11 x1)
  else
  F_X0_sweep_b138 fu k49 x1 M)))
set_option maxRecDepth 100000 in
set_option maxHeartbeats 4000000 in
theorem a_X0_sweep_b117 {l : Launch} (fu : Nat)   {k49 : Int32 → xM → Option (xM)} (hk49 : ∀ (b0 : Int32) (M : xM), AW SC l RX0 cX0_sweep 4 none 4 kv (k49 b0 M) 49 [some (xr 1), some (xi b0), none, none] [] M) (x1 : Int32) (x2 : Int32) (x3 : Int32) (M : xM)  : AW SC l RX0 cX0_sweep 4 none 4 kv (F_X0_sweep_b117 fu k49 x1 x2 x3 M) 117 [some (xr 1), some (xi x1), some (xi x2), some (xi x3)] [] M := by
  unfold F_X0_sweep_b117
  refine A_iload_n dX0_sweep_117 rfl ?_
  refine A_if_eq (tgt := 138) dX0_sweep_118 (by decide) (fun _ => ?_) (fun _ => ?_)
  · exact (a_X0_sweep_b138 (l := l) fu hk49 _ _ ).sub ⟨rfl, rfl, trivial⟩
  · refine A_iload_n dX0_sweep_121 rfl ?_
    refine A_if_eq (tgt := 138) dX0_sweep_122 (by decide) (fun _ => ?_) (fun _ => ?_)
    · exact (a_X0_sweep_b138 (l := l) fu hk49 _ _ ).sub ⟨rfl, rfl, trivial⟩
    · refine A_aload_n dX0_sweep_125 rfl ?_
      refine A_geti lf_X0_101 rfl rfl dX0_sweep_126 ?_
      refine A_iconst (v := (-1 : Int32)) dX0_sweep_129 oI_m1 ?_
      refine A_icmp_ne (tgt := 138) dX0_sweep_130 (by decide) (fun _ => ?_) (fun _ => ?_)
      · refine A_aload_n dX0_sweep_133 rfl ?_
        refine A_iload_n dX0_sweep_134 rfl ?_
        refine A_puti lf_X0_101 rfl rfl dX0_sweep_135 ?_
        exact (a_X0_sweep_b138 (l := l) fu hk49 _ _ ).sub ⟨rfl, rfl, trivial⟩
      · exact (a_X0_sweep_b138 (l := l) fu hk49 _ _ ).sub ⟨rfl, rfl, trivial⟩
def F_X0_sweep_b96 (fu : Nat)   (k49 : Int32 → xM → Option (xM)) (x1 : Int32) (x2 : Int32) (x3 : Int32) (M : xM) : Option (xM) :=
  (if x2 = 0 then
  (if x3 = 0 then
  (if (M 1 10) = (-1 : Int32) then
  F_X0_sweep_b117 fu k49 x1 x2 x3 (xset M 1 10 x1)
  else
  F_X0_sweep_b117 fu k49 x1 x2 x3 M)
  else
  F_X0_sweep_b117 fu k49 x1 x2 x3 M)
  else
  F_X0_sweep_b117 fu k49 x1 x2 x3 M)
set_option maxRecDepth 100000 in
set_option maxHeartbeats 4000000 in
theorem a_X0_sweep_b96 {l : Launch} (fu : Nat)   {k49 : Int32 → xM → Option (xM)} (hk49 : ∀ (b0 : Int32) (M : xM), AW SC l RX0 cX0_sweep 4 none 4 kv (k49 b0 M) 49 [some (xr 1), some (xi b0), none, none] [] M) (x1 : Int32) (x2 : Int32) (x3 : Int32) (M : xM)  : AW SC l RX0 cX0_sweep 4 none 4 kv (F_X0_sweep_b96 fu k49 x1 x2 x3 M) 96 [some (xr 1), some (xi x1), some (xi x2), some (xi x3)] [] M := by
  unfold F_X0_sweep_b96
  refine A_iload_n dX0_sweep_96 rfl ?_
  refine A_if_ne (tgt := 117) dX0_sweep_97 (by decide) (fun _ => ?_) (fun _ => ?_)
  · refine A_iload_n dX0_sweep_100 rfl ?_
    refine A_if_ne (tgt := 117) dX0_sweep_101 (by decide) (fun _ => ?_) (fun _ => ?_)
    · refine A_aload_n dX0_sweep_104 rfl ?_
      refine A_geti lf_X0_98 rfl rfl dX0_sweep_105 ?_
      refine A_iconst (v := (-1 : Int32)) dX0_sweep_108 oI_m1 ?_
      refine A_icmp_ne (tgt := 117) dX0_sweep_109 (by decide) (fun _ => ?_) (fun _ => ?_)
      · refine A_aload_n dX0_sweep_112 rfl ?_
        refine A_iload_n dX0_sweep_113 rfl ?_
        refine A_puti lf_X0_98 rfl rfl dX0_sweep_114 ?_
        exact (a_X0_sweep_b117 (l := l) fu hk49 _ _ _ _ ).sub ⟨rfl, rfl, rfl, rfl, trivial⟩
      · exact (a_X0_sweep_b117 (l := l) fu hk49 _ _ _ _ ).sub ⟨rfl, rfl, rfl, rfl, trivial⟩
    · exact (a_X0_sweep_b117 (l := l) fu hk49 _ _ _ _ ).sub ⟨rfl, rfl, rfl, rfl, trivial⟩
  · exact (a_X0_sweep_b117 (l := l) fu hk49 _ _ _ _ ).sub ⟨rfl, rfl, rfl, rfl, trivial⟩
def F_X0_sweep_b49 (fu : Nat)    : Nat → Int32 → xM → Option (xM)
  | 0, _, _ => none
  | n + 1, x1, M =>
    (if (P_X1_all (M 1 0) M) < x1 then
    (F_X0_fewestStraps fu M).bind fun q1 =>
    some (xset (xset q1.2 1 12 q1.1) 1 8 (0 : Int32))
    else
    (F_X0_strapsAgainst fu x1 (0 : Int32) M).bind fun q2 =>
    (F_X0_isLawful fu x1 q2.2).bind fun q3 =>
    (F_X1_put 15 1024 q2.1 (1 : Int32) q3.2).bind fun q4 =>
    (if q2.1 = 0 then
    F_X0_sweep_b96 fu (F_X0_sweep_b49 fu n) x1 q2.1 q3.1 (xset q4 1 9 ((q4 1 9) + (1 : Int32)))
    else
    F_X0_sweep_b96 fu (F_X0_sweep_b49 fu n) x1 q2.1 q3.1 q4))
set_option maxRecDepth 100000 in
set_option maxHeartbeats 4000000 in
theorem a_X0_sweep_b49 {l : Launch} (fu : Nat)     : ∀ (n : Nat) (x1 : Int32) (M : xM), AW SC l RX0 cX0_sweep 4 none 4 kv (F_X0_sweep_b49 fu n x1 M) 49 [some (xr 1), some (xi x1), none, none] [] M := by
  intro n
  induction n with
  | zero =>
    intro x1 M
    exact AW.none
  | succ n ih =>
    intro x1 M
    rw [F_X0_sweep_b49]
    refine A_iload_n dX0_sweep_49 rfl ?_
    refine A_aload_n dX0_sweep_50 rfl ?_
    refine A_geti lf_X0_40 rfl rfl dX0_sweep_51 ?_
    refine A_callSp (a_X1_all (S := SC) (l := l) _ _ ) lc_X0_44 rfl (by decide) (Nat.le_of_ble_eq_true rfl) rfl dX0_sweep_54 ?_
    refine A_icmp_gt (tgt := 144) dX0_sweep_57 (by decide) (fun _ => ?_) (fun _ => ?_)
    · refine A_aload_n dX0_sweep_144 rfl ?_
      refine A_aload_n dX0_sweep_145 rfl ?_
      refine A_callVi (a_X0_fewestStraps (l := l) fu  _ ) lc_X0_113 rfl rfl (by decide) (Nat.le_of_ble_eq_true rfl) rfl dX0_sweep_146 (fun q1 Mq1 hq1 => ?_)
      refine A_puti lf_X0_107 rfl rfl dX0_sweep_149 ?_
      refine A_aload_n dX0_sweep_152 rfl ?_
      refine A_iconst (v := (0 : Int32)) dX0_sweep_153 oI_0 ?_
      refine A_putz lf_X0_24 rfl rfl (Or.inl rfl) dX0_sweep_154 ?_
      exact A_vret rfl dX0_sweep_157
    · refine A_aload_n dX0_sweep_60 rfl ?_
      refine A_iload_n dX0_sweep_61 rfl ?_
      refine A_iconst (v := (0 : Int32)) dX0_sweep_62 oI_0 ?_
      refine A_callVi (a_X0_strapsAgainst (l := l) fu _ _ _ ) lc_X0_88 rfl rfl (by decide) (Nat.le_of_ble_eq_true rfl) rfl dX0_sweep_63 (fun q2 Mq2 hq2 => ?_)
      refine A_istore_n dX0_sweep_66 (Nat.le_of_ble_eq_true rfl) rfl ?_
      refine A_aload_n dX0_sweep_67 rfl ?_
      refine A_iload_n dX0_sweep_68 rfl ?_
      refine A_callVi (a_X0_isLawful (l := l) fu _ _ ) lc_X0_110 rfl rfl (by decide) (Nat.le_of_ble_eq_true rfl) rfl dX0_sweep_69 (fun q3 Mq3 hq3 => ?_)
      refine A_istore_n dX0_sweep_72 (Nat.le_of_ble_eq_true rfl) rfl ?_
      refine A_aload_n dX0_sweep_73 rfl ?_
      refine A_getr lf_X0_28 rfl rfl dX0_sweep_74 ?_
      refine A_iload_n dX0_sweep_77 rfl ?_
      refine A_iconst (v := (1 : Int32)) dX0_sweep_78 oI_1 ?_
      refine A_callSv (a_X1_put (S := SC) (l := l) _ _ _ _ _ rfl) lc_X0_67 rfl (by decide) (Nat.le_of_ble_eq_true rfl) rfl dX0_sweep_79 (fun q4 hq4 => ?_)
      refine A_iload_n dX0_sweep_82 rfl ?_
      refine A_if_ne (tgt := 96) dX0_sweep_83 (by decide) (fun _ => ?_) (fun _ => ?_)
      · refine A_aload_n dX0_sweep_86 rfl ?_
        refine A_dup dX0_sweep_87 rfl ?_
        refine A_geti lf_X0_104 rfl rfl dX0_sweep_88 ?_
        refine A_iconst (v := (1 : Int32)) dX0_sweep_91 oI_1 ?_
        refine A_iadd dX0_sweep_92 ?_
        refine A_puti lf_X0_104 rfl rfl dX0_sweep_93 ?_
        exact (a_X0_sweep_b96 (l := l) fu ih _ _ _ _ ).sub ⟨rfl, rfl, rfl, rfl, trivial⟩
      · exact (a_X0_sweep_b96 (l := l) fu ih _ _ _ _ ).sub ⟨rfl, rfl, rfl, rfl, trivial⟩
def F_X0_sweep_b25 (fu : Nat)    : Nat → Int32 → xM → Option (xM)
  | 0, _, _ => none
  | n + 1, x1, M =>
    (if (Int32.ofNat 1024) ≤ x1 then
    F_X0_sweep_b49 fu fu (0 : Int32) M
    else
    (if x1 < 0 ∨ 1024 ≤ x1.toNatClampNeg then none else
    F_X0_sweep_b25 fu n (x1 + (1 : Int32)) (xset M 15 x1.toNatClampNeg (0 : Int32))))
set_option maxRecDepth 100000 in
set_option maxHeartbeats 4000000 in
theorem a_X0_sweep_b25 {l : Launch} (fu : Nat)     : ∀ (n : Nat) (x1 : Int32) (M : xM), AW SC l RX0 cX0_sweep 4 none 4 kv (F_X0_sweep_b25 fu n x1 M) 25 [some (xr 1), some (xi x1), none, none] [] M := by
  intro n
  induction n with
  | zero =>
    intro x1 M
    exact AW.none
  | succ n ih =>
    intro x1 M
    rw [F_X0_sweep_b25]
    refine A_iload_n dX0_sweep_25 rfl ?_
    refine A_aload_n dX0_sweep_26 rfl ?_
    refine A_getr lf_X0_28 rfl rfl dX0_sweep_27 ?_
    refine A_alen rfl (by decide) dX0_sweep_30 ?_
    refine A_icmp_ge (tgt := 47) dX0_sweep_31 (by decide) (fun _ => ?_) (fun _ => ?_)
    · refine A_iconst (v := (0 : Int32)) dX0_sweep_47 oI_0 ?_
      refine A_istore_n dX0_sweep_48 (Nat.le_of_ble_eq_true rfl) rfl ?_
      exact (a_X0_sweep_b49 (l := l) fu  fu _ _).sub ⟨rfl, rfl, trivial⟩
    · refine A_aload_n dX0_sweep_34 rfl ?_
      refine A_getr lf_X0_28 rfl rfl dX0_sweep_35 ?_
      refine A_iload_n dX0_sweep_38 rfl ?_
      refine A_iconst (v := (0 : Int32)) dX0_sweep_39 oI_0 ?_
      refine A_iast rfl dX0_sweep_40 (fun _ => ?_)
      refine A_iinc dX0_sweep_41 rfl oI_1 (Nat.le_of_ble_eq_true rfl) rfl ?_
      refine A_goto (tgt := 25) dX0_sweep_44 (by decide) ?_
      exact (ih _ _).sub ⟨rfl, rfl, trivial⟩
def F_X0_sweep (fu : Nat)     (M : xM) : Option (xM) :=
  (if (M 1 8) = 0 then
  some M
  else
  F_X0_sweep_b25 fu fu (0 : Int32) (xset (xset (xset M 1 9 (0 : Int32)) 1 10 (-1 : Int32)) 1 11 (-1 : Int32)))
set_option maxRecDepth 100000 in
set_option maxHeartbeats 4000000 in
theorem w_X0_sweep {l : Launch} (fu : Nat)      (M : xM)  : AW SC l RX0 cX0_sweep 4 none 4 kv (F_X0_sweep fu  M) 0 [some (xr 1), none, none, none] [] M := by
  unfold F_X0_sweep
  refine A_aload_n dX0_sweep_0 rfl ?_
  refine A_geti lf_X0_24 rfl rfl dX0_sweep_1 ?_
  refine A_if_ne (tgt := 8) dX0_sweep_4 (by decide) (fun _ => ?_) (fun _ => ?_)
  · exact A_vret rfl dX0_sweep_7
  · refine A_aload_n dX0_sweep_8 rfl ?_
    refine A_iconst (v := (0 : Int32)) dX0_sweep_9 oI_0 ?_
    refine A_puti lf_X0_104 rfl rfl dX0_sweep_10 ?_
    refine A_aload_n dX0_sweep_13 rfl ?_
    refine A_iconst (v := (-1 : Int32)) dX0_sweep_14 oI_m1 ?_
    refine A_puti lf_X0_98 rfl rfl dX0_sweep_15 ?_
    refine A_aload_n dX0_sweep_18 rfl ?_
    refine A_iconst (v := (-1 : Int32)) dX0_sweep_19 oI_m1 ?_
    refine A_puti lf_X0_101 rfl rfl dX0_sweep_20 ?_
    refine A_iconst (v := (0 : Int32)) dX0_sweep_23 oI_0 ?_
    refine A_istore_n dX0_sweep_24 (Nat.le_of_ble_eq_true rfl) rfl ?_
    exact (a_X0_sweep_b25 (l := l) fu  fu _ _).sub ⟨rfl, rfl, trivial⟩
theorem a_X0_sweep {l : Launch} (fu : Nat)   (M : xM)  : AM SC l yX0_sweep cX0_sweep 4 none 4 kv [xr 1] M (F_X0_sweep fu   M) :=
  AM.of (L0 := [some (xr 1), none, none, none]) (w_X0_sweep (l := l) fu  M ) (by decide +kernel) rfl (Nat.le_of_ble_eq_true rfl) ⟨rfl, trivial⟩
def F_X0_beatingRow (fu : Nat)     (M : xM) : Option (Int32 × xM) :=
  (F_X0_sweep fu M).bind fun q1 =>
  some ((q1 1 10), q1)
set_option maxRecDepth 100000 in
set_option maxHeartbeats 4000000 in
theorem w_X0_beatingRow {l : Launch} (fu : Nat)      (M : xM)  : AW SC l RX0 cX0_beatingRow 1 (some .int) 5 ki (F_X0_beatingRow fu  M) 0 [some (xr 1)] [] M := by
  unfold F_X0_beatingRow
  refine A_aload_n dX0_beatingRow_0 rfl ?_
  refine A_callVv (a_X0_sweep (l := l) fu  _ ) lc_X0_95 rfl rfl (by decide) (Nat.le_of_ble_eq_true rfl) rfl dX0_beatingRow_1 (fun q1 hq1 => ?_)
  refine A_aload_n dX0_beatingRow_4 rfl ?_
  refine A_geti lf_X0_98 rfl rfl dX0_beatingRow_5 ?_
  exact A_iret rfl dX0_beatingRow_8
theorem a_X0_beatingRow {l : Launch} (fu : Nat)   (M : xM)  : AM SC l yX0_beatingRow cX0_beatingRow 1 (some .int) 5 ki [xr 1] M (F_X0_beatingRow fu   M) :=
  AM.of (L0 := [some (xr 1)]) (w_X0_beatingRow (l := l) fu  M ) (by decide +kernel) rfl (Nat.le_of_ble_eq_true rfl) ⟨rfl, trivial⟩
def F_X0_barredRow (fu : Nat)     (M : xM) : Option (Int32 × xM) :=
  (F_X0_sweep fu M).bind fun q1 =>
  some ((q1 1 11), q1)
set_option maxRecDepth 100000 in
set_option maxHeartbeats 4000000 in
theorem w_X0_barredRow {l : Launch} (fu : Nat)      (M : xM)  : AW SC l RX0 cX0_barredRow 1 (some .int) 5 ki (F_X0_barredRow fu  M) 0 [some (xr 1)] [] M := by
  unfold F_X0_barredRow
  refine A_aload_n dX0_barredRow_0 rfl ?_
  refine A_callVv (a_X0_sweep (l := l) fu  _ ) lc_X0_95 rfl rfl (by decide) (Nat.le_of_ble_eq_true rfl) rfl dX0_barredRow_1 (fun q1 hq1 => ?_)
  refine A_aload_n dX0_barredRow_4 rfl ?_
  refine A_geti lf_X0_101 rfl rfl dX0_barredRow_5 ?_
  exact A_iret rfl dX0_barredRow_8
theorem a_X0_barredRow {l : Launch} (fu : Nat)   (M : xM)  : AM SC l yX0_barredRow cX0_barredRow 1 (some .int) 5 ki [xr 1] M (F_X0_barredRow fu   M) :=
  AM.of (L0 := [some (xr 1)]) (w_X0_barredRow (l := l) fu  M ) (by decide +kernel) rfl (Nat.le_of_ble_eq_true rfl) ⟨rfl, trivial⟩
def F_X0_letRows (fu : Nat)     (M : xM) : Option (Int32 × xM) :=
  (F_X0_sweep fu M).bind fun q1 =>
  some ((q1 1 9), q1)
set_option maxRecDepth 100000 in
set_option maxHeartbeats 4000000 in
theorem w_X0_letRows {l : Launch} (fu : Nat)      (M : xM)  : AW SC l RX0 cX0_letRows 1 (some .int) 5 ki (F_X0_letRows fu  M) 0 [some (xr 1)] [] M := by
  unfold F_X0_letRows
  refine A_aload_n dX0_letRows_0 rfl ?_
  refine A_callVv (a_X0_sweep (l := l) fu  _ ) lc_X0_95 rfl rfl (by decide) (Nat.le_of_ble_eq_true rfl) rfl dX0_letRows_1 (fun q1 hq1 => ?_)
  refine A_aload_n dX0_letRows_4 rfl ?_
  refine A_geti lf_X0_104 rfl rfl dX0_letRows_5 ?_
  exact A_iret rfl dX0_letRows_8
theorem a_X0_letRows {l : Launch} (fu : Nat)   (M : xM)  : AM SC l yX0_letRows cX0_letRows 1 (some .int) 5 ki [xr 1] M (F_X0_letRows fu   M) :=
  AM.of (L0 := [some (xr 1)]) (w_X0_letRows (l := l) fu  M ) (by decide +kernel) rfl (Nat.le_of_ble_eq_true rfl) ⟨rfl, trivial⟩
def F_X0_neededStraps (fu : Nat)     (M : xM) : Option (Int32 × xM) :=
  (F_X0_sweep fu M).bind fun q1 =>
  some ((q1 1 12), q1)
set_option maxRecDepth 100000 in
set_option maxHeartbeats 4000000 in
theorem w_X0_neededStraps {l : Launch} (fu : Nat)      (M : xM)  : AW SC l RX0 cX0_neededStraps 1 (some .int) 5 ki (F_X0_neededStraps fu  M) 0 [some (xr 1)] [] M := by
  unfold F_X0_neededStraps
  refine A_aload_n dX0_neededStraps_0 rfl ?_
  refine A_callVv (a_X0_sweep (l := l) fu  _ ) lc_X0_95 rfl rfl (by decide) (Nat.le_of_ble_eq_true rfl) rfl dX0_neededStraps_1 (fun q1 hq1 => ?_)
  refine A_aload_n dX0_neededStraps_4 rfl ?_
  refine A_geti lf_X0_107 rfl rfl dX0_neededStraps_5 ?_
  exact A_iret rfl dX0_neededStraps_8
theorem a_X0_neededStraps {l : Launch} (fu : Nat)   (M : xM)  : AM SC l yX0_neededStraps cX0_neededStraps 1 (some .int) 5 ki [xr 1] M (F_X0_neededStraps fu   M) :=
  AM.of (L0 := [some (xr 1)]) (w_X0_neededStraps (l := l) fu  M ) (by decide +kernel) rfl (Nat.le_of_ble_eq_true rfl) ⟨rfl, trivial⟩
def F_X0_waysToPull_b33 (fu : Nat)  (x1 : Int32)  : Nat → Int32 → Int32 → xM → Option (Int32 × xM)
  | 0, _, _, _ => none
  | n + 1, x2, x3, M =>
    (if (P_J6_bitCount_0f7a4 x1 M) < x3 then
    some (x2, M)
    else
    F_X0_waysToPull_b33 fu x1 n (x2 * x3) (x3 + (1 : Int32)) M)
set_option maxRecDepth 100000 in
set_option maxHeartbeats 4000000 in
theorem a_X0_waysToPull_b33 {l : Launch} (fu : Nat) (x1 : Int32)    : ∀ (n : Nat) (x2 : Int32) (x3 : Int32) (M : xM), AW SC l RX0 cX0_waysToPull 4 (some .int) 3 ki (F_X0_waysToPull_b33 fu x1 n x2 x3 M) 33 [none, some (xi x1), some (xi x2), some (xi x3)] [] M := by
  intro n
  induction n with
  | zero =>
    intro x2 x3 M
    exact AW.none
  | succ n ih =>
    intro x2 x3 M
    rw [F_X0_waysToPull_b33]
    refine A_iload_n dX0_waysToPull_33 rfl ?_
    refine A_iload_n dX0_waysToPull_34 rfl ?_
    refine A_callSp (a_J6_bitCount_0f7a4 (S := SC) (l := l) _ _ ) lc_X0_62 rfl (by decide) (Nat.le_of_ble_eq_true rfl) rfl dX0_waysToPull_35 ?_
    refine A_icmp_gt (tgt := 51) dX0_waysToPull_38 (by decide) (fun _ => ?_) (fun _ => ?_)
    · refine A_iload_n dX0_waysToPull_51 rfl ?_
      exact A_iret rfl dX0_waysToPull_52
    · refine A_iload_n dX0_waysToPull_41 rfl ?_
      refine A_iload_n dX0_waysToPull_42 rfl ?_
      refine A_imul dX0_waysToPull_43 ?_
      refine A_istore_n dX0_waysToPull_44 (Nat.le_of_ble_eq_true rfl) rfl ?_
      refine A_iinc dX0_waysToPull_45 rfl oI_1 (Nat.le_of_ble_eq_true rfl) rfl ?_
      refine A_goto (tgt := 33) dX0_waysToPull_48 (by decide) ?_
      exact (ih _ _ _).sub ⟨rfl, rfl, rfl, trivial⟩
def F_X0_waysToPull (fu : Nat)  (x1 : Int32)   (M : xM) : Option (Int32 × xM) :=
  (if (P_X0_isRow x1 M) = 0 then
  some ((-1 : Int32), M)
  else
  (if (P_J6_bitCount_0f7a4 x1 M) ≤ (10 : Int32) then
  (F_X0_isLet fu x1 M).bind fun q1 =>
  (if q1.1 = 0 then
  some ((0 : Int32), q1.2)
  else
  F_X0_waysToPull_b33 fu x1 fu (1 : Int32) (2 : Int32) q1.2)
  else
  some ((-1 : Int32), M)))
set_option maxRecDepth 100000 in
set_option maxHeartbeats 4000000 in
theorem w_X0_waysToPull {l : Launch} (fu : Nat) (x1 : Int32)     (M : xM)  : AW SC l RX0 cX0_waysToPull 4 (some .int) 3 ki (F_X0_waysToPull fu x1  M) 0 [some (xr 1), some (xi x1), none, none] [] M := by
  unfold F_X0_waysToPull
  refine A_aload_n dX0_waysToPull_0 rfl ?_
  refine A_iload_n dX0_waysToPull_1 rfl ?_
  refine A_callVp (a_X0_isRow (l := l) _ _ ) lc_X0_55 rfl rfl (by decide) (Nat.le_of_ble_eq_true rfl) rfl dX0_waysToPull_2 ?_
  refine A_if_eq (tgt := 17) dX0_waysToPull_5 (by decide) (fun _ => ?_) (fun _ => ?_)
  · refine A_iconst (v := (-1 : Int32)) dX0_waysToPull_17 oI_m1 ?_
    exact A_iret rfl dX0_waysToPull_18
  · refine A_iload_n dX0_waysToPull_8 rfl ?_
    refine A_callSp (a_J6_bitCount_0f7a4 (S := SC) (l := l) _ _ ) lc_X0_62 rfl (by decide) (Nat.le_of_ble_eq_true rfl) rfl dX0_waysToPull_9 ?_
    refine A_bipush (v := (10 : Int32)) dX0_waysToPull_12 oB_10 ?_
    refine A_icmp_le (tgt := 19) dX0_waysToPull_14 (by decide) (fun _ => ?_) (fun _ => ?_)
    · refine A_aload_n dX0_waysToPull_19 rfl ?_
      refine A_iload_n dX0_waysToPull_20 rfl ?_
      refine A_callVi (a_X0_isLet (l := l) fu _ _ ) lc_X0_123 rfl rfl (by decide) (Nat.le_of_ble_eq_true rfl) rfl dX0_waysToPull_21 (fun q1 Mq1 hq1 => ?_)
      refine A_if_ne (tgt := 29) dX0_waysToPull_24 (by decide) (fun _ => ?_) (fun _ => ?_)
      · refine A_iconst (v := (0 : Int32)) dX0_waysToPull_27 oI_0 ?_
        exact A_iret rfl dX0_waysToPull_28
      · refine A_iconst (v := (1 : Int32)) dX0_waysToPull_29 oI_1 ?_
        refine A_istore_n dX0_waysToPull_30 (Nat.le_of_ble_eq_true rfl) rfl ?_
        refine A_iconst (v := (2 : Int32)) dX0_waysToPull_31 oI_2 ?_
        refine A_istore_n dX0_waysToPull_32 (Nat.le_of_ble_eq_true rfl) rfl ?_
        exact (a_X0_waysToPull_b33 (l := l) fu x1  fu _ _ _).sub ⟨rfl, rfl, rfl, trivial⟩
    · refine A_iconst (v := (-1 : Int32)) dX0_waysToPull_17 oI_m1 ?_
      exact A_iret rfl dX0_waysToPull_18
theorem a_X0_waysToPull {l : Launch} (fu : Nat)  (x1 : Int32) (M : xM)  : AM SC l yX0_waysToPull cX0_waysToPull 4 (some .int) 3 ki [xr 1, xi x1] M (F_X0_waysToPull fu x1  M) :=
  AM.of (L0 := [some (xr 1), some (xi x1), none, none]) (w_X0_waysToPull (l := l) fu x1  M ) (by decide +kernel) rfl (Nat.le_of_ble_eq_true rfl) ⟨rfl, rfl, trivial⟩
def F_X0_shuffle_b42 (fu : Nat)  (x1 : Int32) (x2 : Int64) (k6 : Int32 → Int32 → xM → Option (Int32 × xM)) (x4 : Int32) (x5 : Int32) (M : xM) : Option (Int32 × xM) :=
  k6 x4 (x5 + (1 : Int32)) M
set_option maxRecDepth 100000 in
set_option maxHeartbeats 4000000 in
theorem a_X0_shuffle_b42 {l : Launch} (fu : Nat) (x1 : Int32) (x2 : Int64)  {k6 : Int32 → Int32 → xM → Option (Int32 × xM)} (hk6 : ∀ (b0 : Int32) (b1 : Int32) (M : xM), AW SC l RX0 cX0_shuffle 8 (some .int) 2 ki (k6 b0 b1 M) 6 [some (xr 1), some (xi x1), some (xl x2), none, some (xi b0), some (xi b1), none, none] [] M) (x4 : Int32) (x5 : Int32) (M : xM)  : AW SC l RX0 cX0_shuffle 8 (some .int) 2 ki (F_X0_shuffle_b42 fu x1 x2 k6 x4 x5 M) 42 [some (xr 1), some (xi x1), some (xl x2), none, some (xi x4), some (xi x5), none, none] [] M := by
  unfold F_X0_shuffle_b42
  refine A_iinc dX0_shuffle_42 rfl oI_1 (Nat.le_of_ble_eq_true rfl) rfl ?_
  refine A_goto (tgt := 6) dX0_shuffle_45 (by decide) ?_
  exact (hk6 _ _ _).sub ⟨rfl, rfl, rfl, rfl, rfl, trivial⟩
def F_X0_shuffle_b57 (fu : Nat)  (x1 : Int32) (x2 : Int64)  : Nat → Int32 → Int64 → Int32 → xM → Option (Int32 × xM)
  | 0, _, _, _, _ => none
  | n + 1, x4, x5, x7, M =>
    (if x7 < (1 : Int32) then
    some (x4, M)
    else
    if (x7 + (1 : Int32)).toInt64 = 0 then none else
    (F_X1_swap 16 16 x7 ((((((x5 * (6364136223846793005 : Int64)) + (1442695040888963407 : Int64)).toUInt64 >>> ((33 : Int32).toInt64.toUInt64 &&& Int64.toUInt64 63)).toInt64) - ((((x5 * (6364136223846793005 : Int64)) + (1442695040888963407 : Int64)).toUInt64 >>> ((33 : Int32).toInt64.toUInt64 &&& Int64.toUInt64 63)).toInt64) / (x7 + (1 : Int32)).toInt64 * (x7 + (1 : Int32)).toInt64).toInt32) M).bind fun q1 =>
    F_X0_shuffle_b57 fu x1 x2 n x4 ((x5 * (6364136223846793005 : Int64)) + (1442695040888963407 : Int64)) (x7 + (-1 : Int32)) q1)
set_option maxRecDepth 100000 in
set_option maxHeartbeats 4000000 in
theorem a_X0_shuffle_b57 {l : Launch} (fu : Nat) (x1 : Int32) (x2 : Int64)    : ∀ (n : Nat) (x4 : Int32) (x5 : Int64) (x7 : Int32) (M : xM), AW SC l RX0 cX0_shuffle 8 (some .int) 2 ki (F_X0_shuffle_b57 fu x1 x2 n x4 x5 x7 M) 57 [some (xr 1), none, none, none, some (xi x4), some (xl x5), none, some (xi x7)] [] M := by
  intro n
  induction n with
  | zero =>
    intro x4 x5 x7 M
    exact AW.none
  | succ n ih =>
    intro x4 x5 x7 M
    rw [F_X0_shuffle_b57]
    refine A_iload dX0_shuffle_57 rfl ?_
    refine A_iconst (v := (1 : Int32)) dX0_shuffle_59 oI_1 ?_
    refine A_icmp_lt (tgt := 102) dX0_shuffle_60 (by decide) (fun _ => ?_) (fun _ => ?_)
    · refine A_iload dX0_shuffle_102 rfl ?_
      exact A_iret rfl dX0_shuffle_104
    · refine A_lload dX0_shuffle_63 rfl ?_
      refine A_ldc2 (v := (6364136223846793005 : Int64)) dX0_shuffle_65 lk_X0_126 ?_
      refine A_lmul dX0_shuffle_68 ?_
      refine A_ldc2 (v := (1442695040888963407 : Int64)) dX0_shuffle_69 lk_X0_128 ?_
      refine A_ladd dX0_shuffle_72 ?_
      refine A_lstore dX0_shuffle_73 (Nat.le_of_ble_eq_true rfl) rfl ?_
      refine A_aload_n dX0_shuffle_75 rfl ?_
      refine A_getr lf_X0_31 rfl rfl dX0_shuffle_76 ?_
      refine A_iload dX0_shuffle_79 rfl ?_
      refine A_lload dX0_shuffle_81 rfl ?_
      refine A_bipush (v := (33 : Int32)) dX0_shuffle_83 oB_33 ?_
      refine A_lushr dX0_shuffle_85 ?_
      refine A_iload dX0_shuffle_86 rfl ?_
      refine A_iconst (v := (1 : Int32)) dX0_shuffle_88 oI_1 ?_
      refine A_iadd dX0_shuffle_89 ?_
      refine A_i2l dX0_shuffle_90 ?_
      refine A_lrem dX0_shuffle_91 (fun _ => ?_)
      refine A_l2i dX0_shuffle_92 ?_
      refine A_callSv (a_X1_swap (S := SC) (l := l) _ _ _ _ _ rfl) lc_X0_130 rfl (by decide) (Nat.le_of_ble_eq_true rfl) rfl dX0_shuffle_93 (fun q1 hq1 => ?_)
      refine A_iinc dX0_shuffle_96 rfl oI_m1 (Nat.le_of_ble_eq_true rfl) rfl ?_
      refine A_goto (tgt := 57) dX0_shuffle_99 (by decide) ?_
      exact (ih _ _ _ _).sub ⟨rfl, rfl, rfl, rfl, trivial⟩
def F_X0_shuffle_b6 (fu : Nat)  (x1 : Int32) (x2 : Int64)  : Nat → Int32 → Int32 → xM → Option (Int32 × xM)
  | 0, _, _, _ => none
  | n + 1, x4, x5, M =>
    (if (M 1 0) ≤ x5 then
    F_X0_shuffle_b57 fu x1 x2 fu x4 x2 (x4 - (1 : Int32)) M
    else
    (if (P_X1_has (P_X0_leversOf x1 M) x5 M) = 0 then
    F_X0_shuffle_b42 fu x1 x2 (F_X0_shuffle_b6 fu x1 x2 n) x4 x5 M
    else
    (F_X1_put 16 16 x4 x5 M).bind fun q1 =>
    F_X0_shuffle_b42 fu x1 x2 (F_X0_shuffle_b6 fu x1 x2 n) (x4 + (1 : Int32)) x5 q1))
set_option maxRecDepth 100000 in
set_option maxHeartbeats 4000000 in
theorem a_X0_shuffle_b6 {l : Launch} (fu : Nat) (x1 : Int32) (x2 : Int64)    : ∀ (n : Nat) (x4 : Int32) (x5 : Int32) (M : xM), AW SC l RX0 cX0_shuffle 8 (some .int) 2 ki (F_X0_shuffle_b6 fu x1 x2 n x4 x5 M) 6 [some (xr 1), some (xi x1), some (xl x2), none, some (xi x4), some (xi x5), none, none] [] M := by
  intro n
  induction n with
  | zero =>
    intro x4 x5 M
    exact AW.none
  | succ n ih =>
    intro x4 x5 M
    rw [F_X0_shuffle_b6]
    refine A_iload dX0_shuffle_6 rfl ?_
    refine A_aload_n dX0_shuffle_8 rfl ?_
    refine A_geti lf_X0_40 rfl rfl dX0_shuffle_9 ?_
    refine A_icmp_ge (tgt := 48) dX0_shuffle_12 (by decide) (fun _ => ?_) (fun _ => ?_)
    · refine A_lload_n dX0_shuffle_48 rfl ?_
      refine A_lstore dX0_shuffle_49 (Nat.le_of_ble_eq_true rfl) rfl ?_
      refine A_iload dX0_shuffle_51 rfl ?_
      refine A_iconst (v := (1 : Int32)) dX0_shuffle_53 oI_1 ?_
      refine A_isub dX0_shuffle_54 ?_
      refine A_istore dX0_shuffle_55 (Nat.le_of_ble_eq_true rfl) rfl ?_
      exact (a_X0_shuffle_b57 (l := l) fu x1 x2  fu _ _ _ _).sub ⟨rfl, rfl, rfl, rfl, trivial⟩
    · refine A_aload_n dX0_shuffle_15 rfl ?_
      refine A_iload_n dX0_shuffle_16 rfl ?_
      refine A_callVp (a_X0_leversOf (l := l) _ _ ) lc_X0_82 rfl rfl (by decide) (Nat.le_of_ble_eq_true rfl) rfl dX0_shuffle_17 ?_
      refine A_iload dX0_shuffle_20 rfl ?_
      refine A_callSp (a_X1_has (S := SC) (l := l) _ _ _ ) lc_X0_78 rfl (by decide) (Nat.le_of_ble_eq_true rfl) rfl dX0_shuffle_22 ?_
      refine A_if_eq (tgt := 42) dX0_shuffle_25 (by decide) (fun _ => ?_) (fun _ => ?_)
      · exact (a_X0_shuffle_b42 (l := l) fu x1 x2 ih _ _ _ ).sub ⟨rfl, rfl, rfl, rfl, rfl, trivial⟩
      · refine A_aload_n dX0_shuffle_28 rfl ?_
        refine A_getr lf_X0_31 rfl rfl dX0_shuffle_29 ?_
        refine A_iload dX0_shuffle_32 rfl ?_
        refine A_iload dX0_shuffle_34 rfl ?_
        refine A_callSv (a_X1_put (S := SC) (l := l) _ _ _ _ _ rfl) lc_X0_67 rfl (by decide) (Nat.le_of_ble_eq_true rfl) rfl dX0_shuffle_36 (fun q1 hq1 => ?_)
        refine A_iinc dX0_shuffle_39 rfl oI_1 (Nat.le_of_ble_eq_true rfl) rfl ?_
        exact (a_X0_shuffle_b42 (l := l) fu x1 x2 ih _ _ _ ).sub ⟨rfl, rfl, rfl, rfl, rfl, trivial⟩
def F_X0_shuffle (fu : Nat)  (x1 : Int32) (x2 : Int64)   (M : xM) : Option (Int32 × xM) :=
  F_X0_shuffle_b6 fu x1 x2 fu (0 : Int32) (0 : Int32) M
set_option maxRecDepth 100000 in
set_option maxHeartbeats 4000000 in
theorem w_X0_shuffle {l : Launch} (fu : Nat) (x1 : Int32) (x2 : Int64)     (M : xM)  : AW SC l RX0 cX0_shuffle 8 (some .int) 2 ki (F_X0_shuffle fu x1 x2  M) 0 [some (xr 1), some (xi x1), some (xl x2), none, none, none, none, none] [] M := by
  unfold F_X0_shuffle
  refine A_iconst (v := (0 : Int32)) dX0_shuffle_0 oI_0 ?_
  refine A_istore dX0_shuffle_1 (Nat.le_of_ble_eq_true rfl) rfl ?_
  refine A_iconst (v := (0 : Int32)) dX0_shuffle_3 oI_0 ?_
  refine A_istore dX0_shuffle_4 (Nat.le_of_ble_eq_true rfl) rfl ?_
  exact (a_X0_shuffle_b6 (l := l) fu x1 x2  fu _ _ _).sub ⟨rfl, rfl, rfl, rfl, rfl, trivial⟩
theorem a_X0_shuffle {l : Launch} (fu : Nat)  (x1 : Int32) (x2 : Int64) (M : xM)  : AM SC l yX0_shuffle cX0_shuffle 8 (some .int) 2 ki [xr 1, xi x1, xl x2] M (F_X0_shuffle fu x1 x2  M) :=
  AM.of (L0 := [some (xr 1), some (xi x1), some (xl x2), none, none, none, none, none]) (w_X0_shuffle (l := l) fu x1 x2  M ) (by decide +kernel) rfl (Nat.le_of_ble_eq_true rfl) ⟨rfl, rfl, rfl, trivial⟩
def P_X0_shuffledAt  (x1 : Int32) (x2 : Int32)   (M : xM) : Int32 :=
  (P_X1_at 16 16 (P_X1_modulo x1 x2 M) M)
set_option maxRecDepth 100000 in
set_option maxHeartbeats 4000000 in
theorem w_X0_shuffledAt {l : Launch} (x1 : Int32) (x2 : Int32)     (M : xM)  : AW SC l RX0 cX0_shuffledAt 3 (some .int) 2 ki (some (P_X0_shuffledAt x1 x2  M, M)) 0 [some (xr 1), some (xi x1), some (xi x2)] [] M := by
  unfold P_X0_shuffledAt
  refine A_aload_n dX0_shuffledAt_0 rfl ?_
  refine A_getr lf_X0_31 rfl rfl dX0_shuffledAt_1 ?_
  refine A_iload_n dX0_shuffledAt_4 rfl ?_
  refine A_iload_n dX0_shuffledAt_5 rfl ?_
  refine A_callSp (a_X1_modulo (S := SC) (l := l) _ _ _ ) lc_X0_133 rfl (by decide) (Nat.le_of_ble_eq_true rfl) rfl dX0_shuffledAt_6 ?_
  refine A_callSp (a_X1_at (S := SC) (l := l) _ _ _ _ rfl) lc_X0_74 rfl (by decide) (Nat.le_of_ble_eq_true rfl) rfl dX0_shuffledAt_9 ?_
  exact A_iret rfl dX0_shuffledAt_12
theorem a_X0_shuffledAt {l : Launch}  (x1 : Int32) (x2 : Int32) (M : xM)  : AM SC l yX0_shuffledAt cX0_shuffledAt 3 (some .int) 2 ki [xr 1, xi x1, xi x2] M (some (P_X0_shuffledAt  x1 x2  M, M)) :=
  AM.of (L0 := [some (xr 1), some (xi x1), some (xi x2)]) (w_X0_shuffledAt (l := l) x1 x2  M ) (by decide +kernel) rfl (Nat.le_of_ble_eq_true rfl) ⟨rfl, rfl, rfl, trivial⟩
