theorem oB_121 : (Int8.ofInt (121)).toInt32 = (121 : Int32) := by decide +kernel
theorem oB_124 : (Int8.ofInt (124)).toInt32 = (124 : Int32) := by decide +kernel
theorem oB_38 : (Int8.ofInt (38)).toInt32 = (38 : Int32) := by decide +kernel
theorem oB_40 : (Int8.ofInt (40)).toInt32 = (40 : Int32) := by decide +kernel
theorem oB_41 : (Int8.ofInt (41)).toInt32 = (41 : Int32) := by decide +kernel
theorem oB_42 : (Int8.ofInt (42)).toInt32 = (42 : Int32) := by decide +kernel
theorem oB_43 : (Int8.ofInt (43)).toInt32 = (43 : Int32) := by decide +kernel
theorem oB_45 : (Int8.ofInt (45)).toInt32 = (45 : Int32) := by decide +kernel
theorem oB_47 : (Int8.ofInt (47)).toInt32 = (47 : Int32) := by decide +kernel
theorem oB_48 : (Int8.ofInt (48)).toInt32 = (48 : Int32) := by decide +kernel
theorem oB_57 : (Int8.ofInt (57)).toInt32 = (57 : Int32) := by decide +kernel
theorem oB_58 : (Int8.ofInt (58)).toInt32 = (58 : Int32) := by decide +kernel
theorem oB_59 : (Int8.ofInt (59)).toInt32 = (59 : Int32) := by decide +kernel
theorem oB_60 : (Int8.ofInt (60)).toInt32 = (60 : Int32) := by decide +kernel
theorem oB_61 : (Int8.ofInt (61)).toInt32 = (61 : Int32) := by decide +kernel
theorem oB_62 : (Int8.ofInt (62)).toInt32 = (62 : Int32) := by decide +kernel
theorem oB_91 : (Int8.ofInt (91)).toInt32 = (91 : Int32) := by decide +kernel
theorem oB_93 : (Int8.ofInt (93)).toInt32 = (93 : Int32) := by decide +kernel
theorem oI_3 : Int32.ofInt (3) = (3 : Int32) := by decide +kernel
theorem lk_X3_90 : Jvm.Cond.constantLong RX3 90 (-1000000) ∈ lw_g := lw_gm 700 (by decide +kernel) rfl
theorem lk_X3_92 : Jvm.Cond.constantLong RX3 92 (1000000) ∈ lw_g := lw_gm 701 (by decide +kernel) rfl
theorem lf_X3_17 : xfl RX3 17 2 1 (tyX3 1) true := ⟨_, _, _, _, xc_X3, by decide, rfl, rfl, rfl, lw_gm 233 (by decide +kernel) rfl⟩
theorem lf_X3_23 : xfl RX3 23 2 2 (tyX3 2) true := ⟨_, _, _, _, xc_X3, by decide, rfl, rfl, rfl, lw_gm 234 (by decide +kernel) rfl⟩
theorem lf_X3_32 : xfl RX3 32 2 3 (tyX3 3) false := ⟨_, _, _, _, xc_X3, by decide, rfl, rfl, rfl, lw_gm 235 (by decide +kernel) rfl⟩
theorem lf_X3_43 : xfl RX3 43 2 4 (tyX3 4) false := ⟨_, _, _, _, xc_X3, by decide, rfl, rfl, rfl, lw_gm 236 (by decide +kernel) rfl⟩
theorem lf_X3_9 : xfl RX3 9 2 0 (tyX3 0) false := ⟨_, _, _, _, xc_X3, by decide, rfl, rfl, rfl, lw_gm 231 (by decide +kernel) rfl⟩
theorem lc_X3_100 : xlS RX3 100 Lib.MathLoose.max_long.x Lib.MathLoose.max_long.code 4 (some .long) 2 := ⟨⟨lw_gm 705 (by decide +kernel) rfl, lw_gm 107 (by decide +kernel) rfl, lw_gm 707 (by decide +kernel) rfl, ⟨by decide, by decide, by decide +kernel⟩, by decide⟩, lw_gm 706 (by decide +kernel) rfl⟩
theorem lc_X3_26 : xlS RX3 26 yX1_nearest cX1_nearest 3 (some .int) 3 := ⟨⟨lw_gm 656 (by decide +kernel) rfl, lw_gm 106 (by decide +kernel) rfl, lw_gm 139 (by decide +kernel) rfl, ⟨by decide, by decide, by decide +kernel⟩, by decide⟩, lw_gm 138 (by decide +kernel) rfl⟩
theorem lc_X3_35 : xlS RX3 35 yX1_at cX1_at 2 (some .int) 2 := ⟨⟨lw_gm 657 (by decide +kernel) rfl, lw_gm 106 (by decide +kernel) rfl, lw_gm 560 (by decide +kernel) rfl, ⟨by decide, by decide, by decide +kernel⟩, by decide⟩, lw_gm 559 (by decide +kernel) rfl⟩
theorem lc_X3_39 : xlS RX3 39 yX1_put cX1_put 3 none 3 := ⟨⟨lw_gm 658 (by decide +kernel) rfl, lw_gm 106 (by decide +kernel) rfl, lw_gm 527 (by decide +kernel) rfl, ⟨by decide, by decide, by decide +kernel⟩, by decide⟩, lw_gm 526 (by decide +kernel) rfl⟩
theorem lc_X3_46 : xlV RX3 46 yX3_expect cX3_expect 2 none 1 2 := ⟨⟨lw_gm 663 (by decide +kernel) rfl, lw_gm 110 (by decide +kernel) rfl, lw_gm 666 (by decide +kernel) rfl, ⟨by decide, by decide, by decide +kernel⟩, by decide⟩, lw_gm 665 (by decide +kernel) rfl, lw_gm 3 (by decide +kernel) rfl, _, _, rfl⟩
theorem lc_X3_50 : xlV RX3 50 yX3_next cX3_next 1 (some .int) 0 2 := ⟨⟨lw_gm 667 (by decide +kernel) rfl, lw_gm 110 (by decide +kernel) rfl, lw_gm 670 (by decide +kernel) rfl, ⟨by decide, by decide, by decide +kernel⟩, by decide⟩, lw_gm 669 (by decide +kernel) rfl, lw_gm 4 (by decide +kernel) rfl, _, _, rfl⟩
theorem lc_X3_54 : xlV RX3 54 yX3_sum cX3_sum 8 (some .int) 1 2 := ⟨⟨lw_gm 675 (by decide +kernel) rfl, lw_gm 110 (by decide +kernel) rfl, lw_gm 678 (by decide +kernel) rfl, ⟨by decide, by decide, by decide +kernel⟩, by decide⟩, lw_gm 677 (by decide +kernel) rfl, lw_gm 6 (by decide +kernel) rfl, _, _, rfl⟩
theorem lc_X3_58 : xlS RX3 58 yX3_isComparison cX3_isComparison 1 (some .boolean) 1 := ⟨⟨lw_gm 708 (by decide +kernel) rfl, lw_gm 110 (by decide +kernel) rfl, lw_gm 710 (by decide +kernel) rfl, ⟨by decide, by decide, by decide +kernel⟩, by decide⟩, lw_gm 709 (by decide +kernel) rfl⟩
theorem lc_X3_62 : xlV RX3 62 yX3_condition cX3_condition 9 (some .boolean) 3 2 := ⟨⟨lw_gm 711 (by decide +kernel) rfl, lw_gm 110 (by decide +kernel) rfl, lw_gm 714 (by decide +kernel) rfl, ⟨by decide, by decide, by decide +kernel⟩, by decide⟩, lw_gm 713 (by decide +kernel) rfl, lw_gm 10 (by decide +kernel) rfl, _, _, rfl⟩
theorem lc_X3_66 : xlV RX3 66 yX3_stop cX3_stop 1 none 0 2 := ⟨⟨lw_gm 671 (by decide +kernel) rfl, lw_gm 110 (by decide +kernel) rfl, lw_gm 674 (by decide +kernel) rfl, ⟨by decide, by decide, by decide +kernel⟩, by decide⟩, lw_gm 673 (by decide +kernel) rfl, lw_gm 5 (by decide +kernel) rfl, _, _, rfl⟩
theorem lc_X3_69 : xlV RX3 69 yX3_unit cX3_unit 8 (some .boolean) 3 2 := ⟨⟨lw_gm 715 (by decide +kernel) rfl, lw_gm 110 (by decide +kernel) rfl, lw_gm 718 (by decide +kernel) rfl, ⟨by decide, by decide, by decide +kernel⟩, by decide⟩, lw_gm 717 (by decide +kernel) rfl, lw_gm 11 (by decide +kernel) rfl, _, _, rfl⟩
theorem lc_X3_72 : xlV RX3 72 yX3_goesDeeper cX3_goesDeeper 2 (some .boolean) 1 2 := ⟨⟨lw_gm 683 (by decide +kernel) rfl, lw_gm 110 (by decide +kernel) rfl, lw_gm 686 (by decide +kernel) rfl, ⟨by decide, by decide, by decide +kernel⟩, by decide⟩, lw_gm 685 (by decide +kernel) rfl, lw_gm 8 (by decide +kernel) rfl, _, _, rfl⟩
theorem lc_X3_75 : xlV RX3 75 yX3_atom cX3_atom 4 (some .int) 1 2 := ⟨⟨lw_gm 679 (by decide +kernel) rfl, lw_gm 110 (by decide +kernel) rfl, lw_gm 682 (by decide +kernel) rfl, ⟨by decide, by decide, by decide +kernel⟩, by decide⟩, lw_gm 681 (by decide +kernel) rfl, lw_gm 7 (by decide +kernel) rfl, _, _, rfl⟩
theorem lc_X3_78 : xlS RX3 78 yX3_reckoned cX3_reckoned 5 (some .int) 3 := ⟨⟨lw_gm 697 (by decide +kernel) rfl, lw_gm 110 (by decide +kernel) rfl, lw_gm 699 (by decide +kernel) rfl, ⟨by decide, by decide, by decide +kernel⟩, by decide⟩, lw_gm 698 (by decide +kernel) rfl⟩
theorem lc_X3_81 : xlS RX3 81 yX3_isDigit cX3_isDigit 1 (some .boolean) 1 := ⟨⟨lw_gm 687 (by decide +kernel) rfl, lw_gm 110 (by decide +kernel) rfl, lw_gm 689 (by decide +kernel) rfl, ⟨by decide, by decide, by decide +kernel⟩, by decide⟩, lw_gm 688 (by decide +kernel) rfl⟩
theorem lc_X3_84 : xlV RX3 84 yX3_digits cX3_digits 4 (some .int) 0 2 := ⟨⟨lw_gm 690 (by decide +kernel) rfl, lw_gm 110 (by decide +kernel) rfl, lw_gm 693 (by decide +kernel) rfl, ⟨by decide, by decide, by decide +kernel⟩, by decide⟩, lw_gm 692 (by decide +kernel) rfl, lw_gm 9 (by decide +kernel) rfl, _, _, rfl⟩
theorem lc_X3_87 : xlS RX3 87 yX3_bookOf cX3_bookOf 1 (some .int) 1 := ⟨⟨lw_gm 694 (by decide +kernel) rfl, lw_gm 110 (by decide +kernel) rfl, lw_gm 696 (by decide +kernel) rfl, ⟨by decide, by decide, by decide +kernel⟩, by decide⟩, lw_gm 695 (by decide +kernel) rfl⟩
theorem lc_X3_94 : xlS RX3 94 Lib.MathLoose.min_long.x Lib.MathLoose.min_long.code 4 (some .long) 2 := ⟨⟨lw_gm 702 (by decide +kernel) rfl, lw_gm 107 (by decide +kernel) rfl, lw_gm 704 (by decide +kernel) rfl, ⟨by decide, by decide, by decide +kernel⟩, by decide⟩, lw_gm 703 (by decide +kernel) rfl⟩
def F_X3_layText_b17 (fu : Nat)  (r1 n1 : Nat) (x2 : Int32) (x3 : Int32)  : Nat → Int32 → xM → Option (xM)
  | 0, _, _ => none
  | n + 1, x4, M =>
    (if (M 4 3) ≤ x4 then
    some M
    else
    (F_X1_put 20 120 x4 (P_X1_at r1 n1 (x2 + x4) M) M).bind fun q1 =>
    F_X3_layText_b17 fu r1 n1 x2 x3 n (x4 + (1 : Int32)) q1)
set_option maxRecDepth 100000 in
set_option maxHeartbeats 4000000 in
theorem a_X3_layText_b17 {l : Launch} (fu : Nat) (r1 n1 : Nat) (x2 : Int32) (x3 : Int32) (h1 : SC[r1]? = some (.inl (0, n1)))   : ∀ (n : Nat) (x4 : Int32) (M : xM), AW SC l RX3 cX3_layText 5 none 3 kv (F_X3_layText_b17 fu r1 n1 x2 x3 n x4 M) 17 [some (xr 4), some (xr r1), some (xi x2), none, some (xi x4)] [] M := by
  intro n
  induction n with
  | zero =>
    intro x4 M
    exact AW.none
  | succ n ih =>
    intro x4 M
    rw [F_X3_layText_b17]
    refine A_iload dX3_layText_17 rfl ?_
    refine A_aload_n dX3_layText_19 rfl ?_
    refine A_geti lf_X3_32 rfl rfl dX3_layText_20 ?_
    refine A_icmp_ge (tgt := 49) dX3_layText_23 (by decide) (fun _ => ?_) (fun _ => ?_)
    · exact A_vret rfl dX3_layText_49
    · refine A_aload_n dX3_layText_26 rfl ?_
      refine A_getr lf_X3_17 rfl rfl dX3_layText_27 ?_
      refine A_iload dX3_layText_30 rfl ?_
      refine A_aload_n dX3_layText_32 rfl ?_
      refine A_iload_n dX3_layText_33 rfl ?_
      refine A_iload dX3_layText_34 rfl ?_
      refine A_iadd dX3_layText_36 ?_
      refine A_callSp (a_X1_at (S := SC) (l := l) _ _ _ _ h1) lc_X3_35 rfl (by decide) (Nat.le_of_ble_eq_true rfl) rfl dX3_layText_37 ?_
      refine A_callSv (a_X1_put (S := SC) (l := l) _ _ _ _ _ rfl) lc_X3_39 rfl (by decide) (Nat.le_of_ble_eq_true rfl) rfl dX3_layText_40 (fun q1 hq1 => ?_)
      refine A_iinc dX3_layText_43 rfl oI_1 (Nat.le_of_ble_eq_true rfl) rfl ?_
      refine A_goto (tgt := 17) dX3_layText_46 (by decide) ?_
      exact (ih _ _).sub ⟨rfl, rfl, rfl, rfl, trivial⟩
def F_X3_layText (fu : Nat)  (r1 n1 : Nat) (x2 : Int32) (x3 : Int32)   (M : xM) : Option (xM) :=
  F_X3_layText_b17 fu r1 n1 x2 x3 fu (0 : Int32) (xset M 4 3 (P_X1_nearest x3 (0 : Int32) (Int32.ofNat 120) M))
set_option maxRecDepth 100000 in
set_option maxHeartbeats 4000000 in
theorem w_X3_layText {l : Launch} (fu : Nat) (r1 n1 : Nat) (x2 : Int32) (x3 : Int32) (h1 : SC[r1]? = some (.inl (0, n1)))    (M : xM)  : AW SC l RX3 cX3_layText 5 none 3 kv (F_X3_layText fu r1 n1 x2 x3  M) 0 [some (xr 4), some (xr r1), some (xi x2), some (xi x3), none] [] M := by
  unfold F_X3_layText
  refine A_aload_n dX3_layText_0 rfl ?_
  refine A_iload_n dX3_layText_1 rfl ?_
  refine A_iconst (v := (0 : Int32)) dX3_layText_2 oI_0 ?_
  refine A_aload_n dX3_layText_3 rfl ?_
  refine A_getr lf_X3_17 rfl rfl dX3_layText_4 ?_
  refine A_alen rfl (by decide) dX3_layText_7 ?_
  refine A_callSp (a_X1_nearest (S := SC) (l := l) _ _ _ _ ) lc_X3_26 rfl (by decide) (Nat.le_of_ble_eq_true rfl) rfl dX3_layText_8 ?_
  refine A_puti lf_X3_32 rfl rfl dX3_layText_11 ?_
  refine A_iconst (v := (0 : Int32)) dX3_layText_14 oI_0 ?_
  refine A_istore dX3_layText_15 (Nat.le_of_ble_eq_true rfl) rfl ?_
  exact (a_X3_layText_b17 (l := l) fu r1 n1 x2 x3 h1  fu _ _).sub ⟨rfl, rfl, rfl, rfl, trivial⟩
theorem a_X3_layText {l : Launch} (fu : Nat)  (r1 n1 : Nat) (x2 : Int32) (x3 : Int32) (M : xM) (h1 : SC[r1]? = some (.inl (0, n1))) : AM SC l yX3_layText cX3_layText 5 none 3 kv [xr 4, xr r1, xi x2, xi x3] M (F_X3_layText fu r1 n1 x2 x3  M) :=
  AM.of (L0 := [some (xr 4), some (xr r1), some (xi x2), some (xi x3), none]) (w_X3_layText (l := l) fu r1 n1 x2 x3 h1  M ) (by decide +kernel) rfl (Nat.le_of_ble_eq_true rfl) ⟨rfl, rfl, rfl, rfl, trivial⟩
def F_X3_layBooks_b2 (fu : Nat)  (r1 n1 : Nat) (x2 : Int32)  : Nat → Int32 → xM → Option (xM)
  | 0, _, _ => none
  | n + 1, x3, M =>
    (if (Int32.ofNat 5) ≤ x3 then
    some M
    else
    (F_X1_put 21 5 x3 (P_X1_at r1 n1 (x2 + x3) M) M).bind fun q1 =>
    F_X3_layBooks_b2 fu r1 n1 x2 n (x3 + (1 : Int32)) q1)
set_option maxRecDepth 100000 in
set_option maxHeartbeats 4000000 in
theorem a_X3_layBooks_b2 {l : Launch} (fu : Nat) (r1 n1 : Nat) (x2 : Int32) (h1 : SC[r1]? = some (.inl (0, n1)))   : ∀ (n : Nat) (x3 : Int32) (M : xM), AW SC l RX3 cX3_layBooks 4 none 1 kv (F_X3_layBooks_b2 fu r1 n1 x2 n x3 M) 2 [some (xr 4), some (xr r1), some (xi x2), some (xi x3)] [] M := by
  intro n
  induction n with
  | zero =>
    intro x3 M
    exact AW.none
  | succ n ih =>
    intro x3 M
    rw [F_X3_layBooks_b2]
    refine A_iload_n dX3_layBooks_2 rfl ?_
    refine A_aload_n dX3_layBooks_3 rfl ?_
    refine A_getr lf_X3_23 rfl rfl dX3_layBooks_4 ?_
    refine A_alen rfl (by decide) dX3_layBooks_7 ?_
    refine A_icmp_ge (tgt := 32) dX3_layBooks_8 (by decide) (fun _ => ?_) (fun _ => ?_)
    · exact A_vret rfl dX3_layBooks_32
    · refine A_aload_n dX3_layBooks_11 rfl ?_
      refine A_getr lf_X3_23 rfl rfl dX3_layBooks_12 ?_
      refine A_iload_n dX3_layBooks_15 rfl ?_
      refine A_aload_n dX3_layBooks_16 rfl ?_
      refine A_iload_n dX3_layBooks_17 rfl ?_
      refine A_iload_n dX3_layBooks_18 rfl ?_
      refine A_iadd dX3_layBooks_19 ?_
      refine A_callSp (a_X1_at (S := SC) (l := l) _ _ _ _ h1) lc_X3_35 rfl (by decide) (Nat.le_of_ble_eq_true rfl) rfl dX3_layBooks_20 ?_
      refine A_callSv (a_X1_put (S := SC) (l := l) _ _ _ _ _ rfl) lc_X3_39 rfl (by decide) (Nat.le_of_ble_eq_true rfl) rfl dX3_layBooks_23 (fun q1 hq1 => ?_)
      refine A_iinc dX3_layBooks_26 rfl oI_1 (Nat.le_of_ble_eq_true rfl) rfl ?_
      refine A_goto (tgt := 2) dX3_layBooks_29 (by decide) ?_
      exact (ih _ _).sub ⟨rfl, rfl, rfl, rfl, trivial⟩
def F_X3_layBooks (fu : Nat)  (r1 n1 : Nat) (x2 : Int32)   (M : xM) : Option (xM) :=
  F_X3_layBooks_b2 fu r1 n1 x2 fu (0 : Int32) M
set_option maxRecDepth 100000 in
set_option maxHeartbeats 4000000 in
theorem w_X3_layBooks {l : Launch} (fu : Nat) (r1 n1 : Nat) (x2 : Int32) (h1 : SC[r1]? = some (.inl (0, n1)))    (M : xM)  : AW SC l RX3 cX3_layBooks 4 none 1 kv (F_X3_layBooks fu r1 n1 x2  M) 0 [some (xr 4), some (xr r1), some (xi x2), none] [] M := by
  unfold F_X3_layBooks
  refine A_iconst (v := (0 : Int32)) dX3_layBooks_0 oI_0 ?_
  refine A_istore_n dX3_layBooks_1 (Nat.le_of_ble_eq_true rfl) rfl ?_
  exact (a_X3_layBooks_b2 (l := l) fu r1 n1 x2 h1  fu _ _).sub ⟨rfl, rfl, rfl, rfl, trivial⟩
theorem a_X3_layBooks {l : Launch} (fu : Nat)  (r1 n1 : Nat) (x2 : Int32) (M : xM) (h1 : SC[r1]? = some (.inl (0, n1))) : AM SC l yX3_layBooks cX3_layBooks 4 none 1 kv [xr 4, xr r1, xi x2] M (F_X3_layBooks fu r1 n1 x2  M) :=
  AM.of (L0 := [some (xr 4), some (xr r1), some (xi x2), none]) (w_X3_layBooks (l := l) fu r1 n1 x2 h1  M ) (by decide +kernel) rfl (Nat.le_of_ble_eq_true rfl) ⟨rfl, rfl, rfl, trivial⟩
def F_X3_next_b10 (fu : Nat)    : Nat → xM → Option (Int32 × xM)
  | 0, _ => none
  | n + 1, M =>
    (if (M 4 4) < 0 then
    some ((-1 : Int32), M)
    else
    (if (M 4 3) ≤ (M 4 4) then
    some ((-1 : Int32), M)
    else
    (if (Int32.ofNat 120) ≤ (M 4 4) then
    some ((-1 : Int32), M)
    else
    (if (M 4 4) < 0 ∨ 120 ≤ (M 4 4).toNatClampNeg then none else
    (if (M 20 (M 4 4).toNatClampNeg) = (32 : Int32) then
    F_X3_next_b10 fu n  (xset M 4 4 ((M 4 4) + (1 : Int32)))
    else
    (if (M 4 4) < 0 ∨ 120 ≤ (M 4 4).toNatClampNeg then none else
    some ((M 20 (M 4 4).toNatClampNeg), M)))))))
set_option maxRecDepth 100000 in
set_option maxHeartbeats 4000000 in
theorem a_X3_next_b10 {l : Launch} (fu : Nat)     : ∀ (n : Nat)  (M : xM), AW SC l RX3 cX3_next 1 (some .int) 0 ki (F_X3_next_b10 fu n  M) 10 [some (xr 4)] [] M := by
  intro n
  induction n with
  | zero =>
    intro  M
    exact AW.none
  | succ n ih =>
    intro  M
    rw [F_X3_next_b10]
    refine A_aload_n dX3_next_10 rfl ?_
    refine A_geti lf_X3_43 rfl rfl dX3_next_11 ?_
    refine A_if_lt (tgt := 77) dX3_next_14 (by decide) (fun _ => ?_) (fun _ => ?_)
    · refine A_iconst (v := (-1 : Int32)) dX3_next_77 oI_m1 ?_
      exact A_iret rfl dX3_next_78
    · refine A_aload_n dX3_next_17 rfl ?_
      refine A_geti lf_X3_43 rfl rfl dX3_next_18 ?_
      refine A_aload_n dX3_next_21 rfl ?_
      refine A_geti lf_X3_32 rfl rfl dX3_next_22 ?_
      refine A_icmp_ge (tgt := 77) dX3_next_25 (by decide) (fun _ => ?_) (fun _ => ?_)
      · refine A_iconst (v := (-1 : Int32)) dX3_next_77 oI_m1 ?_
        exact A_iret rfl dX3_next_78
      · refine A_aload_n dX3_next_28 rfl ?_
        refine A_geti lf_X3_43 rfl rfl dX3_next_29 ?_
        refine A_aload_n dX3_next_32 rfl ?_
        refine A_getr lf_X3_17 rfl rfl dX3_next_33 ?_
        refine A_alen rfl (by decide) dX3_next_36 ?_
        refine A_icmp_ge (tgt := 77) dX3_next_37 (by decide) (fun _ => ?_) (fun _ => ?_)
        · refine A_iconst (v := (-1 : Int32)) dX3_next_77 oI_m1 ?_
          exact A_iret rfl dX3_next_78
        · refine A_aload_n dX3_next_40 rfl ?_
          refine A_getr lf_X3_17 rfl rfl dX3_next_41 ?_
          refine A_aload_n dX3_next_44 rfl ?_
          refine A_geti lf_X3_43 rfl rfl dX3_next_45 ?_
          refine A_iald rfl dX3_next_48 (fun _ => ?_)
          refine A_bipush (v := (32 : Int32)) dX3_next_49 oB_32 ?_
          refine A_icmp_eq (tgt := 64) dX3_next_51 (by decide) (fun _ => ?_) (fun _ => ?_)
          · refine A_aload_n dX3_next_64 rfl ?_
            refine A_dup dX3_next_65 rfl ?_
            refine A_geti lf_X3_43 rfl rfl dX3_next_66 ?_
            refine A_iconst (v := (1 : Int32)) dX3_next_69 oI_1 ?_
            refine A_iadd dX3_next_70 ?_
            refine A_puti lf_X3_43 rfl rfl dX3_next_71 ?_
            refine A_goto (tgt := 10) dX3_next_74 (by decide) ?_
            exact (ih  _).sub ⟨rfl, trivial⟩
          · refine A_aload_n dX3_next_54 rfl ?_
            refine A_getr lf_X3_17 rfl rfl dX3_next_55 ?_
            refine A_aload_n dX3_next_58 rfl ?_
            refine A_geti lf_X3_43 rfl rfl dX3_next_59 ?_
            refine A_iald rfl dX3_next_62 (fun _ => ?_)
            exact A_iret rfl dX3_next_63
def F_X3_next (fu : Nat)     (M : xM) : Option (Int32 × xM) :=
  (if (M 4 0) = (-1 : Int32) then
  F_X3_next_b10 fu fu  M
  else
  some ((-1 : Int32), M))
set_option maxRecDepth 100000 in
set_option maxHeartbeats 4000000 in
theorem w_X3_next {l : Launch} (fu : Nat)      (M : xM)  : AW SC l RX3 cX3_next 1 (some .int) 0 ki (F_X3_next fu  M) 0 [some (xr 4)] [] M := by
  unfold F_X3_next
  refine A_aload_n dX3_next_0 rfl ?_
  refine A_geti lf_X3_9 rfl rfl dX3_next_1 ?_
  refine A_iconst (v := (-1 : Int32)) dX3_next_4 oI_m1 ?_
  refine A_icmp_eq (tgt := 10) dX3_next_5 (by decide) (fun _ => ?_) (fun _ => ?_)
  · exact (a_X3_next_b10 (l := l) fu  fu  _).sub ⟨rfl, trivial⟩
  · refine A_iconst (v := (-1 : Int32)) dX3_next_8 oI_m1 ?_
    exact A_iret rfl dX3_next_9
theorem a_X3_next {l : Launch} (fu : Nat)   (M : xM)  : AM SC l yX3_next cX3_next 1 (some .int) 0 ki [xr 4] M (F_X3_next fu   M) :=
  AM.of (L0 := [some (xr 4)]) (w_X3_next (l := l) fu  M ) (by decide +kernel) rfl (Nat.le_of_ble_eq_true rfl) ⟨rfl, trivial⟩
def F_X3_stop     (M : xM) : Option (xM) :=
  (if (M 4 0) = (-1 : Int32) then
  some (xset M 4 0 (M 4 4))
  else
  some M)
set_option maxRecDepth 100000 in
set_option maxHeartbeats 4000000 in
theorem w_X3_stop {l : Launch}      (M : xM)  : AW SC l RX3 cX3_stop 1 none 0 kv (F_X3_stop   M) 0 [some (xr 4)] [] M := by
  unfold F_X3_stop
  refine A_aload_n dX3_stop_0 rfl ?_
  refine A_geti lf_X3_9 rfl rfl dX3_stop_1 ?_
  refine A_iconst (v := (-1 : Int32)) dX3_stop_4 oI_m1 ?_
  refine A_icmp_ne (tgt := 16) dX3_stop_5 (by decide) (fun _ => ?_) (fun _ => ?_)
  · refine A_aload_n dX3_stop_8 rfl ?_
    refine A_aload_n dX3_stop_9 rfl ?_
    refine A_geti lf_X3_43 rfl rfl dX3_stop_10 ?_
    refine A_puti lf_X3_9 rfl rfl dX3_stop_13 ?_
    exact A_vret rfl dX3_stop_16
  · exact A_vret rfl dX3_stop_16
theorem a_X3_stop {l : Launch}   (M : xM)  : AM SC l yX3_stop cX3_stop 1 none 0 kv [xr 4] M (F_X3_stop    M) :=
  AM.of (L0 := [some (xr 4)]) (w_X3_stop (l := l)   M ) (by decide +kernel) rfl (Nat.le_of_ble_eq_true rfl) ⟨rfl, trivial⟩
def F_X3_expect (fu : Nat)  (x1 : Int32)   (M : xM) : Option (xM) :=
  (F_X3_next fu M).bind fun q1 =>
  (if q1.1 = x1 then
  some (xset q1.2 4 4 ((q1.2 4 4) + (1 : Int32)))
  else
  (F_X3_stop q1.2).bind fun q2 =>
  some q2)
set_option maxRecDepth 100000 in
set_option maxHeartbeats 4000000 in
theorem w_X3_expect {l : Launch} (fu : Nat) (x1 : Int32)     (M : xM)  : AW SC l RX3 cX3_expect 2 none 1 kv (F_X3_expect fu x1  M) 0 [some (xr 4), some (xi x1)] [] M := by
  unfold F_X3_expect
  refine A_aload_n dX3_expect_0 rfl ?_
  refine A_callVi (a_X3_next (l := l) fu  _ ) lc_X3_50 rfl rfl (by decide) (Nat.le_of_ble_eq_true rfl) rfl dX3_expect_1 (fun q1 Mq1 hq1 => ?_)
  refine A_iload_n dX3_expect_4 rfl ?_
  refine A_icmp_ne (tgt := 21) dX3_expect_5 (by decide) (fun _ => ?_) (fun _ => ?_)
  · refine A_aload_n dX3_expect_8 rfl ?_
    refine A_dup dX3_expect_9 rfl ?_
    refine A_geti lf_X3_43 rfl rfl dX3_expect_10 ?_
    refine A_iconst (v := (1 : Int32)) dX3_expect_13 oI_1 ?_
    refine A_iadd dX3_expect_14 ?_
    refine A_puti lf_X3_43 rfl rfl dX3_expect_15 ?_
    refine A_goto (tgt := 25) dX3_expect_18 (by decide) ?_
    exact A_vret rfl dX3_expect_25
  · refine A_aload_n dX3_expect_21 rfl ?_
    refine A_callVv (a_X3_stop (l := l)  _ ) lc_X3_66 rfl rfl (by decide) (Nat.le_of_ble_eq_true rfl) rfl dX3_expect_22 (fun q2 hq2 => ?_)
    exact A_vret rfl dX3_expect_25
theorem a_X3_expect {l : Launch} (fu : Nat)  (x1 : Int32) (M : xM)  : AM SC l yX3_expect cX3_expect 2 none 1 kv [xr 4, xi x1] M (F_X3_expect fu x1  M) :=
  AM.of (L0 := [some (xr 4), some (xi x1)]) (w_X3_expect (l := l) fu x1  M ) (by decide +kernel) rfl (Nat.le_of_ble_eq_true rfl) ⟨rfl, rfl, trivial⟩
def F_X3_reckoned_b58  (x0 : Int32) (x1 : Int32) (x2 : Int32)  (x3 : Int64) (M : xM) : Option (Int32 × xM) :=
  some ((jmaxl (-1000000 : Int64) (jminl (1000000 : Int64) x3)).toInt32, M)
set_option maxRecDepth 100000 in
set_option maxHeartbeats 4000000 in
theorem a_X3_reckoned_b58 {l : Launch} (x0 : Int32) (x1 : Int32) (x2 : Int32)    (x3 : Int64) (M : xM)  : AW SC l RX3 cX3_reckoned 5 (some .int) 2 ki (F_X3_reckoned_b58 x0 x1 x2 x3 M) 58 [none, none, none, some (xl x3), none] [] M := by
  unfold F_X3_reckoned_b58
  refine A_ldc2 (v := (-1000000 : Int64)) dX3_reckoned_58 lk_X3_90 ?_
  refine A_ldc2 (v := (1000000 : Int64)) dX3_reckoned_61 lk_X3_92 ?_
  refine A_lload_n dX3_reckoned_64 rfl ?_
  refine A_jminl lc_X3_94 (by decide) (Nat.le_of_ble_eq_true rfl) dX3_reckoned_65 ?_
  refine A_jmaxl lc_X3_100 (by decide) (Nat.le_of_ble_eq_true rfl) dX3_reckoned_68 ?_
  refine A_l2i dX3_reckoned_71 ?_
  exact A_iret rfl dX3_reckoned_72
def F_X3_reckoned_b57  (x0 : Int32) (x1 : Int32) (x2 : Int32)  (s0 : Int64) (M : xM) : Option (Int32 × xM) :=
  F_X3_reckoned_b58 x0 x1 x2 s0 M
set_option maxRecDepth 100000 in
set_option maxHeartbeats 4000000 in
theorem a_X3_reckoned_b57 {l : Launch} (x0 : Int32) (x1 : Int32) (x2 : Int32)    (s0 : Int64) (M : xM)  : AW SC l RX3 cX3_reckoned 5 (some .int) 2 ki (F_X3_reckoned_b57 x0 x1 x2 s0 M) 57 [none, none, none, none, none] [xl s0] M := by
  unfold F_X3_reckoned_b57
  refine A_lstore_n dX3_reckoned_57 (Nat.le_of_ble_eq_true rfl) rfl ?_
  exact (a_X3_reckoned_b58 (l := l) x0 x1 x2  _ _ ).sub ⟨rfl, trivial⟩
def F_X3_reckoned  (x0 : Int32) (x1 : Int32) (x2 : Int32)   (M : xM) : Option (Int32 × xM) :=
  (if x1 = (43 : Int32) then
  F_X3_reckoned_b58 x0 x1 x2 (x0.toInt64 + x2.toInt64) M
  else
  (if x1 = (45 : Int32) then
  F_X3_reckoned_b58 x0 x1 x2 (x0.toInt64 - x2.toInt64) M
  else
  (if x1 = (42 : Int32) then
  F_X3_reckoned_b58 x0 x1 x2 (x0.toInt64 * x2.toInt64) M
  else
  (if x2 = 0 then
  F_X3_reckoned_b57 x0 x1 x2 (0 : Int64) M
  else
  if x2.toInt64 = 0 then none else
  F_X3_reckoned_b57 x0 x1 x2 (x0.toInt64 / x2.toInt64) M))))
set_option maxRecDepth 100000 in
set_option maxHeartbeats 4000000 in
theorem w_X3_reckoned {l : Launch} (x0 : Int32) (x1 : Int32) (x2 : Int32)     (M : xM)  : AW SC l RX3 cX3_reckoned 5 (some .int) 2 ki (F_X3_reckoned x0 x1 x2  M) 0 [some (xi x0), some (xi x1), some (xi x2), none, none] [] M := by
  unfold F_X3_reckoned
  refine A_iload_n dX3_reckoned_0 rfl ?_
  refine A_i2l dX3_reckoned_1 ?_
  refine A_lstore_n dX3_reckoned_2 (Nat.le_of_ble_eq_true rfl) rfl ?_
  refine A_iload_n dX3_reckoned_3 rfl ?_
  refine A_bipush (v := (43 : Int32)) dX3_reckoned_4 oB_43 ?_
  refine A_icmp_ne (tgt := 17) dX3_reckoned_6 (by decide) (fun _ => ?_) (fun _ => ?_)
  · refine A_lload_n dX3_reckoned_9 rfl ?_
    refine A_iload_n dX3_reckoned_10 rfl ?_
    refine A_i2l dX3_reckoned_11 ?_
    refine A_ladd dX3_reckoned_12 ?_
    refine A_lstore_n dX3_reckoned_13 (Nat.le_of_ble_eq_true rfl) rfl ?_
    refine A_goto (tgt := 58) dX3_reckoned_14 (by decide) ?_
    exact (a_X3_reckoned_b58 (l := l) x0 x1 x2  _ _ ).sub ⟨rfl, trivial⟩
  · refine A_iload_n dX3_reckoned_17 rfl ?_
    refine A_bipush (v := (45 : Int32)) dX3_reckoned_18 oB_45 ?_
    refine A_icmp_ne (tgt := 31) dX3_reckoned_20 (by decide) (fun _ => ?_) (fun _ => ?_)
    · refine A_lload_n dX3_reckoned_23 rfl ?_
      refine A_iload_n dX3_reckoned_24 rfl ?_
      refine A_i2l dX3_reckoned_25 ?_
      refine A_lsub dX3_reckoned_26 ?_
      refine A_lstore_n dX3_reckoned_27 (Nat.le_of_ble_eq_true rfl) rfl ?_
      refine A_goto (tgt := 58) dX3_reckoned_28 (by decide) ?_
      exact (a_X3_reckoned_b58 (l := l) x0 x1 x2  _ _ ).sub ⟨rfl, trivial⟩
    · refine A_iload_n dX3_reckoned_31 rfl ?_
      refine A_bipush (v := (42 : Int32)) dX3_reckoned_32 oB_42 ?_
      refine A_icmp_ne (tgt := 45) dX3_reckoned_34 (by decide) (fun _ => ?_) (fun _ => ?_)
      · refine A_lload_n dX3_reckoned_37 rfl ?_
        refine A_iload_n dX3_reckoned_38 rfl ?_
        refine A_i2l dX3_reckoned_39 ?_
        refine A_lmul dX3_reckoned_40 ?_
        refine A_lstore_n dX3_reckoned_41 (Nat.le_of_ble_eq_true rfl) rfl ?_
        refine A_goto (tgt := 58) dX3_reckoned_42 (by decide) ?_
        exact (a_X3_reckoned_b58 (l := l) x0 x1 x2  _ _ ).sub ⟨rfl, trivial⟩
      · refine A_iload_n dX3_reckoned_45 rfl ?_
        refine A_if_ne (tgt := 53) dX3_reckoned_46 (by decide) (fun _ => ?_) (fun _ => ?_)
        · refine A_lconst (v := (0 : Int64)) dX3_reckoned_49 (by decide) ?_
          refine A_goto (tgt := 57) dX3_reckoned_50 (by decide) ?_
          exact (a_X3_reckoned_b57 (l := l) x0 x1 x2  _ _ ).sub trivial
        · refine A_lload_n dX3_reckoned_53 rfl ?_
          refine A_iload_n dX3_reckoned_54 rfl ?_
          refine A_i2l dX3_reckoned_55 ?_
          refine A_ldiv dX3_reckoned_56 (fun _ => ?_)
          exact (a_X3_reckoned_b57 (l := l) x0 x1 x2  _ _ ).sub trivial
theorem a_X3_reckoned {l : Launch}  (x0 : Int32) (x1 : Int32) (x2 : Int32) (M : xM)  : AM SC l yX3_reckoned cX3_reckoned 5 (some .int) 2 ki [xi x0, xi x1, xi x2] M (F_X3_reckoned  x0 x1 x2  M) :=
  AM.of (L0 := [some (xi x0), some (xi x1), some (xi x2), none, none]) (w_X3_reckoned (l := l) x0 x1 x2  M ) (by decide +kernel) rfl (Nat.le_of_ble_eq_true rfl) ⟨rfl, rfl, rfl, trivial⟩
def F_X3_goesDeeper  (x1 : Int32)   (M : xM) : Option (Int32 × xM) :=
  (if x1 < (6 : Int32) then
  some ((1 : Int32), (xset M 4 4 ((M 4 4) + (1 : Int32))))
  else
  (F_X3_stop M).bind fun q1 =>
  some ((0 : Int32), q1))
set_option maxRecDepth 100000 in
set_option maxHeartbeats 4000000 in
theorem w_X3_goesDeeper {l : Launch} (x1 : Int32)     (M : xM)  : AW SC l RX3 cX3_goesDeeper 2 (some .boolean) 1 ki (F_X3_goesDeeper x1  M) 0 [some (xr 4), some (xi x1)] [] M := by
  unfold F_X3_goesDeeper
  refine A_iload_n dX3_goesDeeper_0 rfl ?_
  refine A_bipush (v := (6 : Int32)) dX3_goesDeeper_1 oB_6 ?_
  refine A_icmp_lt (tgt := 12) dX3_goesDeeper_3 (by decide) (fun _ => ?_) (fun _ => ?_)
  · refine A_aload_n dX3_goesDeeper_12 rfl ?_
    refine A_dup dX3_goesDeeper_13 rfl ?_
    refine A_geti lf_X3_43 rfl rfl dX3_goesDeeper_14 ?_
    refine A_iconst (v := (1 : Int32)) dX3_goesDeeper_17 oI_1 ?_
    refine A_iadd dX3_goesDeeper_18 ?_
    refine A_puti lf_X3_43 rfl rfl dX3_goesDeeper_19 ?_
    refine A_iconst (v := (1 : Int32)) dX3_goesDeeper_22 oI_1 ?_
    exact A_zret' rfl (Or.inr rfl) dX3_goesDeeper_23
  · refine A_aload_n dX3_goesDeeper_6 rfl ?_
    refine A_callVv (a_X3_stop (l := l)  _ ) lc_X3_66 rfl rfl (by decide) (Nat.le_of_ble_eq_true rfl) rfl dX3_goesDeeper_7 (fun q1 hq1 => ?_)
    refine A_iconst (v := (0 : Int32)) dX3_goesDeeper_10 oI_0 ?_
    exact A_zret' rfl (Or.inl rfl) dX3_goesDeeper_11
theorem a_X3_goesDeeper {l : Launch}  (x1 : Int32) (M : xM)  : AM SC l yX3_goesDeeper cX3_goesDeeper 2 (some .boolean) 1 ki [xr 4, xi x1] M (F_X3_goesDeeper  x1  M) :=
  AM.of (L0 := [some (xr 4), some (xi x1)]) (w_X3_goesDeeper (l := l) x1  M ) (by decide +kernel) rfl (Nat.le_of_ble_eq_true rfl) ⟨rfl, rfl, trivial⟩
def P_X3_isDigit  (x0 : Int32)   (M : xM) : Int32 :=
  (if x0 < (48 : Int32) then
  (0 : Int32)
  else
  (if (57 : Int32) < x0 then
  (0 : Int32)
  else
  (1 : Int32)))
set_option maxRecDepth 100000 in
set_option maxHeartbeats 4000000 in
theorem w_X3_isDigit {l : Launch} (x0 : Int32)     (M : xM)  : AW SC l RX3 cX3_isDigit 1 (some .boolean) 0 ki (some (P_X3_isDigit x0  M, M)) 0 [some (xi x0)] [] M := by
  unfold P_X3_isDigit
  refine A_iload_n dX3_isDigit_0 rfl ?_
  refine A_bipush (v := (48 : Int32)) dX3_isDigit_1 oB_48 ?_
  refine A_icmp_lt_p (tgt := 16) dX3_isDigit_3 (by decide) (fun _ => ?_) (fun _ => ?_)
  · refine A_iconst (v := (0 : Int32)) dX3_isDigit_16 oI_0 ?_
    exact A_zret' rfl (Or.inl rfl) dX3_isDigit_17
  · refine A_iload_n dX3_isDigit_6 rfl ?_
    refine A_bipush (v := (57 : Int32)) dX3_isDigit_7 oB_57 ?_
    refine A_icmp_gt_p (tgt := 16) dX3_isDigit_9 (by decide) (fun _ => ?_) (fun _ => ?_)
    · refine A_iconst (v := (0 : Int32)) dX3_isDigit_16 oI_0 ?_
      exact A_zret' rfl (Or.inl rfl) dX3_isDigit_17
    · refine A_iconst (v := (1 : Int32)) dX3_isDigit_12 oI_1 ?_
      refine A_goto (tgt := 17) dX3_isDigit_13 (by decide) ?_
      exact A_zret' rfl (Or.inr rfl) dX3_isDigit_17
theorem a_X3_isDigit {l : Launch}  (x0 : Int32) (M : xM)  : AM SC l yX3_isDigit cX3_isDigit 1 (some .boolean) 0 ki [xi x0] M (some (P_X3_isDigit  x0  M, M)) :=
  AM.of (L0 := [some (xi x0)]) (w_X3_isDigit (l := l) x0  M ) (by decide +kernel) rfl (Nat.le_of_ble_eq_true rfl) ⟨rfl, trivial⟩
theorem zP_X3_isDigit (x0 : Int32) (M : xM) : P_X3_isDigit x0 M = 0 ∨ P_X3_isDigit x0 M = 1 := by
  unfold P_X3_isDigit
  repeat' split
  all_goals first | decide
def F_X3_digits_b35 (fu : Nat)   (k4 : Int32 → Int32 → xM → Option (Int32 × xM)) (x1 : Int32) (x2 : Int32) (s0 : Int32) (M : xM) : Option (Int32 × xM) :=
  (if (P_X3_isDigit s0 M) = 0 then
  some (x1, M)
  else
  k4 (((x1 * (10 : Int32)) + s0) - (48 : Int32)) (x2 + (1 : Int32)) (xset M 4 4 ((M 4 4) + (1 : Int32))))
set_option maxRecDepth 100000 in
set_option maxHeartbeats 4000000 in
theorem a_X3_digits_b35 {l : Launch} (fu : Nat)   {k4 : Int32 → Int32 → xM → Option (Int32 × xM)} (hk4 : ∀ (b0 : Int32) (b1 : Int32) (M : xM), AW SC l RX3 cX3_digits 4 (some .int) 1 ki (k4 b0 b1 M) 4 [some (xr 4), some (xi b0), some (xi b1), none] [] M) (x1 : Int32) (x2 : Int32) (s0 : Int32) (M : xM)  : AW SC l RX3 cX3_digits 4 (some .int) 1 ki (F_X3_digits_b35 fu k4 x1 x2 s0 M) 35 [some (xr 4), some (xi x1), some (xi x2), none] [xi s0] M := by
  unfold F_X3_digits_b35
  refine A_istore_n dX3_digits_35 (Nat.le_of_ble_eq_true rfl) rfl ?_
  refine A_iload_n dX3_digits_36 rfl ?_
  refine A_callSp (a_X3_isDigit (l := l) _ _ ) lc_X3_81 rfl (by decide) (Nat.le_of_ble_eq_true rfl) rfl dX3_digits_37 ?_
  refine A_if_ne (tgt := 46) dX3_digits_40 (by decide) (fun _ => ?_) (fun _ => ?_)
  · refine A_goto (tgt := 72) dX3_digits_43 (by decide) ?_
    refine A_iload_n dX3_digits_72 rfl ?_
    exact A_iret rfl dX3_digits_73
  · refine A_iload_n dX3_digits_46 rfl ?_
    refine A_bipush (v := (10 : Int32)) dX3_digits_47 oB_10 ?_
    refine A_imul dX3_digits_49 ?_
    refine A_iload_n dX3_digits_50 rfl ?_
    refine A_iadd dX3_digits_51 ?_
    refine A_bipush (v := (48 : Int32)) dX3_digits_52 oB_48 ?_
    refine A_isub dX3_digits_54 ?_
    refine A_istore_n dX3_digits_55 (Nat.le_of_ble_eq_true rfl) rfl ?_
    refine A_aload_n dX3_digits_56 rfl ?_
    refine A_dup dX3_digits_57 rfl ?_
    refine A_geti lf_X3_43 rfl rfl dX3_digits_58 ?_
    refine A_iconst (v := (1 : Int32)) dX3_digits_61 oI_1 ?_
    refine A_iadd dX3_digits_62 ?_
    refine A_puti lf_X3_43 rfl rfl dX3_digits_63 ?_
    refine A_iinc dX3_digits_66 rfl oI_1 (Nat.le_of_ble_eq_true rfl) rfl ?_
    refine A_goto (tgt := 4) dX3_digits_69 (by decide) ?_
    exact (hk4 _ _ _).sub ⟨rfl, rfl, rfl, trivial⟩
def F_X3_digits_b4 (fu : Nat)    : Nat → Int32 → Int32 → xM → Option (Int32 × xM)
  | 0, _, _, _ => none
  | n + 1, x1, x2, M =>
    (if (4 : Int32) ≤ x2 then
    some (x1, M)
    else
    (if (M 4 3) ≤ (M 4 4) then
    F_X3_digits_b35 fu (F_X3_digits_b4 fu n) x1 x2 (-1 : Int32) M
    else
    F_X3_digits_b35 fu (F_X3_digits_b4 fu n) x1 x2 (P_X1_at 20 120 (M 4 4) M) M))
set_option maxRecDepth 100000 in
set_option maxHeartbeats 4000000 in
theorem a_X3_digits_b4 {l : Launch} (fu : Nat)     : ∀ (n : Nat) (x1 : Int32) (x2 : Int32) (M : xM), AW SC l RX3 cX3_digits 4 (some .int) 1 ki (F_X3_digits_b4 fu n x1 x2 M) 4 [some (xr 4), some (xi x1), some (xi x2), none] [] M := by
  intro n
  induction n with
  | zero =>
    intro x1 x2 M
    exact AW.none
  | succ n ih =>
    intro x1 x2 M
    rw [F_X3_digits_b4]
    refine A_iload_n dX3_digits_4 rfl ?_
    refine A_iconst (v := (4 : Int32)) dX3_digits_5 oI_4 ?_
    refine A_icmp_ge (tgt := 72) dX3_digits_6 (by decide) (fun _ => ?_) (fun _ => ?_)
    · refine A_iload_n dX3_digits_72 rfl ?_
      exact A_iret rfl dX3_digits_73
    · refine A_aload_n dX3_digits_9 rfl ?_
      refine A_geti lf_X3_43 rfl rfl dX3_digits_10 ?_
      refine A_aload_n dX3_digits_13 rfl ?_
      refine A_geti lf_X3_32 rfl rfl dX3_digits_14 ?_
      refine A_icmp_ge (tgt := 34) dX3_digits_17 (by decide) (fun _ => ?_) (fun _ => ?_)
      · refine A_iconst (v := (-1 : Int32)) dX3_digits_34 oI_m1 ?_
        exact (a_X3_digits_b35 (l := l) fu ih _ _ _ _ ).sub ⟨rfl, rfl, rfl, trivial⟩
      · refine A_aload_n dX3_digits_20 rfl ?_
        refine A_getr lf_X3_17 rfl rfl dX3_digits_21 ?_
        refine A_aload_n dX3_digits_24 rfl ?_
        refine A_geti lf_X3_43 rfl rfl dX3_digits_25 ?_
        refine A_callSp (a_X1_at (S := SC) (l := l) _ _ _ _ rfl) lc_X3_35 rfl (by decide) (Nat.le_of_ble_eq_true rfl) rfl dX3_digits_28 ?_
        refine A_goto (tgt := 35) dX3_digits_31 (by decide) ?_
        exact (a_X3_digits_b35 (l := l) fu ih _ _ _ _ ).sub ⟨rfl, rfl, rfl, trivial⟩
def F_X3_digits (fu : Nat)     (M : xM) : Option (Int32 × xM) :=
  F_X3_digits_b4 fu fu (0 : Int32) (0 : Int32) M
set_option maxRecDepth 100000 in
set_option maxHeartbeats 4000000 in
theorem w_X3_digits {l : Launch} (fu : Nat)      (M : xM)  : AW SC l RX3 cX3_digits 4 (some .int) 1 ki (F_X3_digits fu  M) 0 [some (xr 4), none, none, none] [] M := by
  unfold F_X3_digits
  refine A_iconst (v := (0 : Int32)) dX3_digits_0 oI_0 ?_
  refine A_istore_n dX3_digits_1 (Nat.le_of_ble_eq_true rfl) rfl ?_
  refine A_iconst (v := (0 : Int32)) dX3_digits_2 oI_0 ?_
  refine A_istore_n dX3_digits_3 (Nat.le_of_ble_eq_true rfl) rfl ?_
  exact (a_X3_digits_b4 (l := l) fu  fu _ _ _).sub ⟨rfl, rfl, rfl, trivial⟩
theorem a_X3_digits {l : Launch} (fu : Nat)   (M : xM)  : AM SC l yX3_digits cX3_digits 4 (some .int) 1 ki [xr 4] M (F_X3_digits fu   M) :=
  AM.of (L0 := [some (xr 4), none, none, none]) (w_X3_digits (l := l) fu  M ) (by decide +kernel) rfl (Nat.le_of_ble_eq_true rfl) ⟨rfl, trivial⟩
def P_X3_bookOf  (x0 : Int32)   (M : xM) : Int32 :=
  (if x0 = (102 : Int32) then
  (2 : Int32)
  else
  (if x0 = (112 : Int32) then
  (4 : Int32)
  else
  (if x0 = (115 : Int32) then
  (0 : Int32)
  else
  (if x0 = (119 : Int32) then
  (3 : Int32)
  else
  (if x0 = (120 : Int32) then
  (1 : Int32)
  else
  (-1 : Int32))))))
set_option maxRecDepth 100000 in
set_option maxHeartbeats 4000000 in
theorem w_X3_bookOf {l : Launch} (x0 : Int32)     (M : xM)  : AW SC l RX3 cX3_bookOf 1 (some .int) 0 ki (some (P_X3_bookOf x0  M, M)) 0 [some (xi x0)] [] M := by
  unfold P_X3_bookOf
  refine A_iload_n dX3_bookOf_0 rfl ?_
  refine AW.ite_p (fun e => ?_) (fun e0 => ?_)
  · refine A_lookup (off := 55) (tgt := 56) dX3_bookOf_1 (by decide) (by rw [e]; rfl) (by decide) ?_
    refine A_iconst (v := (2 : Int32)) dX3_bookOf_56 oI_2 ?_
    exact A_iret rfl dX3_bookOf_57
  · refine AW.ite_p (fun e => ?_) (fun e1 => ?_)
    · refine A_lookup (off := 59) (tgt := 60) dX3_bookOf_1 (by decide) (by rw [e]; rfl) (by decide) ?_
      refine A_iconst (v := (4 : Int32)) dX3_bookOf_60 oI_4 ?_
      exact A_iret rfl dX3_bookOf_61
    · refine AW.ite_p (fun e => ?_) (fun e2 => ?_)
      · refine A_lookup (off := 51) (tgt := 52) dX3_bookOf_1 (by decide) (by rw [e]; rfl) (by decide) ?_
        refine A_iconst (v := (0 : Int32)) dX3_bookOf_52 oI_0 ?_
        exact A_iret rfl dX3_bookOf_53
      · refine AW.ite_p (fun e => ?_) (fun e3 => ?_)
        · refine A_lookup (off := 57) (tgt := 58) dX3_bookOf_1 (by decide) (by rw [e]; rfl) (by decide) ?_
          refine A_iconst (v := (3 : Int32)) dX3_bookOf_58 oI_3 ?_
          exact A_iret rfl dX3_bookOf_59
        · refine AW.ite_p (fun e => ?_) (fun e4 => ?_)
          · refine A_lookup (off := 53) (tgt := 54) dX3_bookOf_1 (by decide) (by rw [e]; rfl) (by decide) ?_
            refine A_iconst (v := (1 : Int32)) dX3_bookOf_54 oI_1 ?_
            exact A_iret rfl dX3_bookOf_55
          · refine A_lookup (off := 61) (tgt := 62) dX3_bookOf_1 (by decide) (by refine (lv_osw e0 (by decide)).trans ?_; refine (lv_osw e1 (by decide)).trans ?_; refine (lv_osw e2 (by decide)).trans ?_; refine (lv_osw e3 (by decide)).trans ?_; refine (lv_osw e4 (by decide)).trans ?_; rfl) (by decide) ?_
            refine A_iconst (v := (-1 : Int32)) dX3_bookOf_62 oI_m1 ?_
            exact A_iret rfl dX3_bookOf_63
theorem a_X3_bookOf {l : Launch}  (x0 : Int32) (M : xM)  : AM SC l yX3_bookOf cX3_bookOf 1 (some .int) 0 ki [xi x0] M (some (P_X3_bookOf  x0  M, M)) :=
  AM.of (L0 := [some (xi x0)]) (w_X3_bookOf (l := l) x0  M ) (by decide +kernel) rfl (Nat.le_of_ble_eq_true rfl) ⟨rfl, trivial⟩
def F_X3_sum_b127 (fu : Nat) (g_sum : Int32 → xM → Option (Int32 × xM)) (g_atom : Int32 → xM → Option (Int32 × xM)) (x1 : Int32)  (x2 : Int32) (x3 : Int32) (x4 : Int32) (M : xM) : Option (Int32 × xM) :=
  (F_X3_reckoned x2 x3 x4 M).bind fun q1 =>
  some (q1.1, q1.2)
set_option maxRecDepth 100000 in
set_option maxHeartbeats 4000000 in
theorem a_X3_sum_b127 {l : Launch} (fu : Nat) {d dd : Nat} (g_sum : Int32 → xM → Option (Int32 × xM)) (g_atom : Int32 → xM → Option (Int32 × xM)) (hd : dd + 1 ≤ d) (hD : 3 ≤ d) (hg_sum : ∀ (a0 : Int32) (M : xM), AM SC l yX3_sum cX3_sum 8 (some .int) dd ki [xr 4, xi a0] M (g_sum a0 M)) (hg_atom : ∀ (a0 : Int32) (M : xM), AM SC l yX3_atom cX3_atom 4 (some .int) dd ki [xr 4, xi a0] M (g_atom a0 M)) (x1 : Int32)    (x2 : Int32) (x3 : Int32) (x4 : Int32) (M : xM)  : AW SC l RX3 cX3_sum 8 (some .int) d ki (F_X3_sum_b127 fu g_sum g_atom x1 x2 x3 x4 M) 127 [none, none, some (xi x2), some (xi x3), some (xi x4), none, none, none] [] M := by
  unfold F_X3_sum_b127
  refine A_iload_n dX3_sum_127 rfl ?_
  refine A_iload_n dX3_sum_128 rfl ?_
  refine A_iload dX3_sum_129 rfl ?_
  refine A_callSi (a_X3_reckoned (l := l) _ _ _ _ ) lc_X3_78 rfl (by omega) (Nat.le_of_ble_eq_true rfl) rfl dX3_sum_131 (fun q1 Mq1 hq1 => ?_)
  exact A_iret rfl dX3_sum_134
def F_X3_sum_b121 (fu : Nat) (g_sum : Int32 → xM → Option (Int32 × xM)) (g_atom : Int32 → xM → Option (Int32 × xM)) (x1 : Int32) (k15 : Int32 → Int32 → Int32 → Int32 → xM → Option (Int32 × xM)) (x2 : Int32) (x3 : Int32) (x4 : Int32) (x5 : Int32) (M : xM) : Option (Int32 × xM) :=
  k15 x2 x3 x4 (x5 + (1 : Int32)) M
set_option maxRecDepth 100000 in
set_option maxHeartbeats 4000000 in
theorem a_X3_sum_b121 {l : Launch} (fu : Nat) {d dd : Nat} (g_sum : Int32 → xM → Option (Int32 × xM)) (g_atom : Int32 → xM → Option (Int32 × xM)) (hd : dd + 1 ≤ d) (hD : 3 ≤ d) (hg_sum : ∀ (a0 : Int32) (M : xM), AM SC l yX3_sum cX3_sum 8 (some .int) dd ki [xr 4, xi a0] M (g_sum a0 M)) (hg_atom : ∀ (a0 : Int32) (M : xM), AM SC l yX3_atom cX3_atom 4 (some .int) dd ki [xr 4, xi a0] M (g_atom a0 M)) (x1 : Int32)  {k15 : Int32 → Int32 → Int32 → Int32 → xM → Option (Int32 × xM)} (hk15 : ∀ (b0 : Int32) (b1 : Int32) (b2 : Int32) (b3 : Int32) (M : xM), AW SC l RX3 cX3_sum 8 (some .int) d ki (k15 b0 b1 b2 b3 M) 15 [some (xr 4), some (xi x1), some (xi b0), some (xi b1), some (xi b2), some (xi b3), none, none] [] M) (x2 : Int32) (x3 : Int32) (x4 : Int32) (x5 : Int32) (M : xM)  : AW SC l RX3 cX3_sum 8 (some .int) d ki (F_X3_sum_b121 fu g_sum g_atom x1 k15 x2 x3 x4 x5 M) 121 [some (xr 4), some (xi x1), some (xi x2), some (xi x3), some (xi x4), some (xi x5), none, none] [] M := by
  unfold F_X3_sum_b121
  refine A_iinc dX3_sum_121 rfl oI_1 (Nat.le_of_ble_eq_true rfl) rfl ?_
  refine A_goto (tgt := 15) dX3_sum_124 (by decide) ?_
  exact (hk15 _ _ _ _ _).sub ⟨rfl, rfl, rfl, rfl, rfl, rfl, trivial⟩
def F_X3_sum_b92 (fu : Nat) (g_sum : Int32 → xM → Option (Int32 × xM)) (g_atom : Int32 → xM → Option (Int32 × xM)) (x1 : Int32) (k15 : Int32 → Int32 → Int32 → Int32 → xM → Option (Int32 × xM)) (x2 : Int32) (x3 : Int32) (x4 : Int32) (x5 : Int32) (x6 : Int32) (x7 : Int32) (M : xM) : Option (Int32 × xM) :=
  (F_X3_reckoned x4 x6 x7 M).bind fun q1 =>
  F_X3_sum_b121 fu g_sum g_atom x1 k15 x2 x3 q1.1 x5 q1.2
set_option maxRecDepth 100000 in
set_option maxHeartbeats 4000000 in
theorem a_X3_sum_b92 {l : Launch} (fu : Nat) {d dd : Nat} (g_sum : Int32 → xM → Option (Int32 × xM)) (g_atom : Int32 → xM → Option (Int32 × xM)) (hd : dd + 1 ≤ d) (hD : 3 ≤ d) (hg_sum : ∀ (a0 : Int32) (M : xM), AM SC l yX3_sum cX3_sum 8 (some .int) dd ki [xr 4, xi a0] M (g_sum a0 M)) (hg_atom : ∀ (a0 : Int32) (M : xM), AM SC l yX3_atom cX3_atom 4 (some .int) dd ki [xr 4, xi a0] M (g_atom a0 M)) (x1 : Int32)  {k15 : Int32 → Int32 → Int32 → Int32 → xM → Option (Int32 × xM)} (hk15 : ∀ (b0 : Int32) (b1 : Int32) (b2 : Int32) (b3 : Int32) (M : xM), AW SC l RX3 cX3_sum 8 (some .int) d ki (k15 b0 b1 b2 b3 M) 15 [some (xr 4), some (xi x1), some (xi b0), some (xi b1), some (xi b2), some (xi b3), none, none] [] M) (x2 : Int32) (x3 : Int32) (x4 : Int32) (x5 : Int32) (x6 : Int32) (x7 : Int32) (M : xM)  : AW SC l RX3 cX3_sum 8 (some .int) d ki (F_X3_sum_b92 fu g_sum g_atom x1 k15 x2 x3 x4 x5 x6 x7 M) 92 [some (xr 4), some (xi x1), some (xi x2), some (xi x3), some (xi x4), some (xi x5), some (xi x6), some (xi x7)] [] M := by
  unfold F_X3_sum_b92
  refine A_iload dX3_sum_92 rfl ?_
  refine A_iload dX3_sum_94 rfl ?_
  refine A_iload dX3_sum_96 rfl ?_
  refine A_callSi (a_X3_reckoned (l := l) _ _ _ _ ) lc_X3_78 rfl (by omega) (Nat.le_of_ble_eq_true rfl) rfl dX3_sum_98 (fun q1 Mq1 hq1 => ?_)
  refine A_istore dX3_sum_101 (Nat.le_of_ble_eq_true rfl) rfl ?_
  refine A_goto (tgt := 121) dX3_sum_103 (by decide) ?_
  exact (a_X3_sum_b121 (l := l) fu g_sum g_atom hd hD hg_sum hg_atom x1 hk15 _ _ _ _ _ ).sub ⟨rfl, rfl, rfl, rfl, rfl, rfl, trivial⟩
def F_X3_sum_b61 (fu : Nat) (g_sum : Int32 → xM → Option (Int32 × xM)) (g_atom : Int32 → xM → Option (Int32 × xM)) (x1 : Int32) (k15 : Int32 → Int32 → Int32 → Int32 → xM → Option (Int32 × xM)) (x2 : Int32) (x3 : Int32) (x4 : Int32) (x5 : Int32) (x6 : Int32) (M : xM) : Option (Int32 × xM) :=
  (g_atom x1 (xset M 4 4 ((M 4 4) + (1 : Int32)))).bind fun q1 =>
  (if x6 = (42 : Int32) then
  F_X3_sum_b92 fu g_sum g_atom x1 k15 x2 x3 x4 x5 x6 q1.1 q1.2
  else
  (if x6 = (47 : Int32) then
  F_X3_sum_b92 fu g_sum g_atom x1 k15 x2 x3 x4 x5 x6 q1.1 q1.2
  else
  (F_X3_reckoned x2 x3 x4 q1.2).bind fun q2 =>
  F_X3_sum_b121 fu g_sum g_atom x1 k15 q2.1 x6 q1.1 x5 q2.2))
set_option maxRecDepth 100000 in
set_option maxHeartbeats 4000000 in
theorem a_X3_sum_b61 {l : Launch} (fu : Nat) {d dd : Nat} (g_sum : Int32 → xM → Option (Int32 × xM)) (g_atom : Int32 → xM → Option (Int32 × xM)) (hd : dd + 1 ≤ d) (hD : 3 ≤ d) (hg_sum : ∀ (a0 : Int32) (M : xM), AM SC l yX3_sum cX3_sum 8 (some .int) dd ki [xr 4, xi a0] M (g_sum a0 M)) (hg_atom : ∀ (a0 : Int32) (M : xM), AM SC l yX3_atom cX3_atom 4 (some .int) dd ki [xr 4, xi a0] M (g_atom a0 M)) (x1 : Int32)  {k15 : Int32 → Int32 → Int32 → Int32 → xM → Option (Int32 × xM)} (hk15 : ∀ (b0 : Int32) (b1 : Int32) (b2 : Int32) (b3 : Int32) (M : xM), AW SC l RX3 cX3_sum 8 (some .int) d ki (k15 b0 b1 b2 b3 M) 15 [some (xr 4), some (xi x1), some (xi b0), some (xi b1), some (xi b2), some (xi b3), none, none] [] M) (x2 : Int32) (x3 : Int32) (x4 : Int32) (x5 : Int32) (x6 : Int32) (M : xM)  : AW SC l RX3 cX3_sum 8 (some .int) d ki (F_X3_sum_b61 fu g_sum g_atom x1 k15 x2 x3 x4 x5 x6 M) 61 [some (xr 4), some (xi x1), some (xi x2), some (xi x3), some (xi x4), some (xi x5), some (xi x6), none] [] M := by
  unfold F_X3_sum_b61
  refine A_aload_n dX3_sum_61 rfl ?_
  refine A_dup dX3_sum_62 rfl ?_
  refine A_geti lf_X3_43 rfl rfl dX3_sum_63 ?_
  refine A_iconst (v := (1 : Int32)) dX3_sum_66 oI_1 ?_
  refine A_iadd dX3_sum_67 ?_
  refine A_puti lf_X3_43 rfl rfl dX3_sum_68 ?_
  refine A_aload_n dX3_sum_71 rfl ?_
  refine A_iload_n dX3_sum_72 rfl ?_
  refine A_callVi (hg_atom _ _) lc_X3_75 rfl rfl hd (Nat.le_of_ble_eq_true rfl) rfl dX3_sum_73 (fun q1 Mq1 hq1 => ?_)
  refine A_istore dX3_sum_76 (Nat.le_of_ble_eq_true rfl) rfl ?_
  refine A_iload dX3_sum_78 rfl ?_
  refine A_bipush (v := (42 : Int32)) dX3_sum_80 oB_42 ?_
  refine A_icmp_eq (tgt := 92) dX3_sum_82 (by decide) (fun _ => ?_) (fun _ => ?_)
  · exact (a_X3_sum_b92 (l := l) fu g_sum g_atom hd hD hg_sum hg_atom x1 hk15 _ _ _ _ _ _ _ ).sub ⟨rfl, rfl, rfl, rfl, rfl, rfl, rfl, rfl, trivial⟩
  · refine A_iload dX3_sum_85 rfl ?_
    refine A_bipush (v := (47 : Int32)) dX3_sum_87 oB_47 ?_
    refine A_icmp_ne (tgt := 106) dX3_sum_89 (by decide) (fun _ => ?_) (fun _ => ?_)
    · exact (a_X3_sum_b92 (l := l) fu g_sum g_atom hd hD hg_sum hg_atom x1 hk15 _ _ _ _ _ _ _ ).sub ⟨rfl, rfl, rfl, rfl, rfl, rfl, rfl, rfl, trivial⟩
    · refine A_iload_n dX3_sum_106 rfl ?_
      refine A_iload_n dX3_sum_107 rfl ?_
      refine A_iload dX3_sum_108 rfl ?_
      refine A_callSi (a_X3_reckoned (l := l) _ _ _ _ ) lc_X3_78 rfl (by omega) (Nat.le_of_ble_eq_true rfl) rfl dX3_sum_110 (fun q2 Mq2 hq2 => ?_)
      refine A_istore_n dX3_sum_113 (Nat.le_of_ble_eq_true rfl) rfl ?_
      refine A_iload dX3_sum_114 rfl ?_
      refine A_istore_n dX3_sum_116 (Nat.le_of_ble_eq_true rfl) rfl ?_
      refine A_iload dX3_sum_117 rfl ?_
      refine A_istore dX3_sum_119 (Nat.le_of_ble_eq_true rfl) rfl ?_
      exact (a_X3_sum_b121 (l := l) fu g_sum g_atom hd hD hg_sum hg_atom x1 hk15 _ _ _ _ _ ).sub ⟨rfl, rfl, rfl, rfl, rfl, rfl, trivial⟩
def F_X3_sum_b15 (fu : Nat) (g_sum : Int32 → xM → Option (Int32 × xM)) (g_atom : Int32 → xM → Option (Int32 × xM)) (x1 : Int32)  : Nat → Int32 → Int32 → Int32 → Int32 → xM → Option (Int32 × xM)
  | 0, _, _, _, _, _ => none
  | n + 1, x2, x3, x4, x5, M =>
    (if (M 4 3) ≤ x5 then
    F_X3_sum_b127 fu g_sum g_atom x1 x2 x3 x4 M
    else
    (F_X3_next fu M).bind fun q1 =>
    (if q1.1 = (43 : Int32) then
    F_X3_sum_b61 fu g_sum g_atom x1 (F_X3_sum_b15 fu g_sum g_atom x1 n) x2 x3 x4 x5 q1.1 q1.2
    else
    (if q1.1 = (45 : Int32) then
    F_X3_sum_b61 fu g_sum g_atom x1 (F_X3_sum_b15 fu g_sum g_atom x1 n) x2 x3 x4 x5 q1.1 q1.2
    else
    (if q1.1 = (42 : Int32) then
    F_X3_sum_b61 fu g_sum g_atom x1 (F_X3_sum_b15 fu g_sum g_atom x1 n) x2 x3 x4 x5 q1.1 q1.2
    else
    (if q1.1 = (47 : Int32) then
    F_X3_sum_b61 fu g_sum g_atom x1 (F_X3_sum_b15 fu g_sum g_atom x1 n) x2 x3 x4 x5 q1.1 q1.2
    else
    F_X3_sum_b127 fu g_sum g_atom x1 x2 x3 x4 q1.2)))))
set_option maxRecDepth 100000 in
set_option maxHeartbeats 4000000 in
theorem a_X3_sum_b15 {l : Launch} (fu : Nat) {d dd : Nat} (g_sum : Int32 → xM → Option (Int32 × xM)) (g_atom : Int32 → xM → Option (Int32 × xM)) (hd : dd + 1 ≤ d) (hD : 3 ≤ d) (hg_sum : ∀ (a0 : Int32) (M : xM), AM SC l yX3_sum cX3_sum 8 (some .int) dd ki [xr 4, xi a0] M (g_sum a0 M)) (hg_atom : ∀ (a0 : Int32) (M : xM), AM SC l yX3_atom cX3_atom 4 (some .int) dd ki [xr 4, xi a0] M (g_atom a0 M)) (x1 : Int32)    : ∀ (n : Nat) (x2 : Int32) (x3 : Int32) (x4 : Int32) (x5 : Int32) (M : xM), AW SC l RX3 cX3_sum 8 (some .int) d ki (F_X3_sum_b15 fu g_sum g_atom x1 n x2 x3 x4 x5 M) 15 [some (xr 4), some (xi x1), some (xi x2), some (xi x3), some (xi x4), some (xi x5), none, none] [] M := by
  intro n
  induction n with
  | zero =>
    intro x2 x3 x4 x5 M
    exact AW.none
  | succ n ih =>
    intro x2 x3 x4 x5 M
    rw [F_X3_sum_b15]
    refine A_iload dX3_sum_15 rfl ?_
    refine A_aload_n dX3_sum_17 rfl ?_
    refine A_geti lf_X3_32 rfl rfl dX3_sum_18 ?_
    refine A_icmp_ge (tgt := 127) dX3_sum_21 (by decide) (fun _ => ?_) (fun _ => ?_)
    · exact (a_X3_sum_b127 (l := l) fu g_sum g_atom hd hD hg_sum hg_atom x1  _ _ _ _ ).sub ⟨rfl, rfl, rfl, trivial⟩
    · refine A_aload_n dX3_sum_24 rfl ?_
      refine A_callVi (a_X3_next (l := l) fu  _ ) lc_X3_50 rfl rfl (by omega) (Nat.le_of_ble_eq_true rfl) rfl dX3_sum_25 (fun q1 Mq1 hq1 => ?_)
      refine A_istore dX3_sum_28 (Nat.le_of_ble_eq_true rfl) rfl ?_
      refine A_iload dX3_sum_30 rfl ?_
      refine A_bipush (v := (43 : Int32)) dX3_sum_32 oB_43 ?_
      refine A_icmp_eq (tgt := 61) dX3_sum_34 (by decide) (fun _ => ?_) (fun _ => ?_)
      · exact (a_X3_sum_b61 (l := l) fu g_sum g_atom hd hD hg_sum hg_atom x1 ih _ _ _ _ _ _ ).sub ⟨rfl, rfl, rfl, rfl, rfl, rfl, rfl, trivial⟩
      · refine A_iload dX3_sum_37 rfl ?_
        refine A_bipush (v := (45 : Int32)) dX3_sum_39 oB_45 ?_
        refine A_icmp_eq (tgt := 61) dX3_sum_41 (by decide) (fun _ => ?_) (fun _ => ?_)
        · exact (a_X3_sum_b61 (l := l) fu g_sum g_atom hd hD hg_sum hg_atom x1 ih _ _ _ _ _ _ ).sub ⟨rfl, rfl, rfl, rfl, rfl, rfl, rfl, trivial⟩
        · refine A_iload dX3_sum_44 rfl ?_
          refine A_bipush (v := (42 : Int32)) dX3_sum_46 oB_42 ?_
          refine A_icmp_eq (tgt := 61) dX3_sum_48 (by decide) (fun _ => ?_) (fun _ => ?_)
          · exact (a_X3_sum_b61 (l := l) fu g_sum g_atom hd hD hg_sum hg_atom x1 ih _ _ _ _ _ _ ).sub ⟨rfl, rfl, rfl, rfl, rfl, rfl, rfl, trivial⟩
          · refine A_iload dX3_sum_51 rfl ?_
            refine A_bipush (v := (47 : Int32)) dX3_sum_53 oB_47 ?_
            refine A_icmp_eq (tgt := 61) dX3_sum_55 (by decide) (fun _ => ?_) (fun _ => ?_)
            · exact (a_X3_sum_b61 (l := l) fu g_sum g_atom hd hD hg_sum hg_atom x1 ih _ _ _ _ _ _ ).sub ⟨rfl, rfl, rfl, rfl, rfl, rfl, rfl, trivial⟩
            · refine A_goto (tgt := 127) dX3_sum_58 (by decide) ?_
              exact (a_X3_sum_b127 (l := l) fu g_sum g_atom hd hD hg_sum hg_atom x1  _ _ _ _ ).sub ⟨rfl, rfl, rfl, trivial⟩
def F_X3_sum (fu : Nat) (g_sum : Int32 → xM → Option (Int32 × xM)) (g_atom : Int32 → xM → Option (Int32 × xM)) (x1 : Int32)   (M : xM) : Option (Int32 × xM) :=
  (g_atom x1 M).bind fun q1 =>
  F_X3_sum_b15 fu g_sum g_atom x1 fu (0 : Int32) (43 : Int32) q1.1 (0 : Int32) q1.2
set_option maxRecDepth 100000 in
set_option maxHeartbeats 4000000 in
theorem w_X3_sum {l : Launch} (fu : Nat) {d dd : Nat} (g_sum : Int32 → xM → Option (Int32 × xM)) (g_atom : Int32 → xM → Option (Int32 × xM)) (hd : dd + 1 ≤ d) (hD : 3 ≤ d) (hg_sum : ∀ (a0 : Int32) (M : xM), AM SC l yX3_sum cX3_sum 8 (some .int) dd ki [xr 4, xi a0] M (g_sum a0 M)) (hg_atom : ∀ (a0 : Int32) (M : xM), AM SC l yX3_atom cX3_atom 4 (some .int) dd ki [xr 4, xi a0] M (g_atom a0 M)) (x1 : Int32)     (M : xM)  : AW SC l RX3 cX3_sum 8 (some .int) d ki (F_X3_sum fu g_sum g_atom x1  M) 0 [some (xr 4), some (xi x1), none, none, none, none, none, none] [] M := by
  unfold F_X3_sum
  refine A_iconst (v := (0 : Int32)) dX3_sum_0 oI_0 ?_
  refine A_istore_n dX3_sum_1 (Nat.le_of_ble_eq_true rfl) rfl ?_
  refine A_bipush (v := (43 : Int32)) dX3_sum_2 oB_43 ?_
  refine A_istore_n dX3_sum_4 (Nat.le_of_ble_eq_true rfl) rfl ?_
  refine A_aload_n dX3_sum_5 rfl ?_
  refine A_iload_n dX3_sum_6 rfl ?_
  refine A_callVi (hg_atom _ _) lc_X3_75 rfl rfl hd (Nat.le_of_ble_eq_true rfl) rfl dX3_sum_7 (fun q1 Mq1 hq1 => ?_)
  refine A_istore dX3_sum_10 (Nat.le_of_ble_eq_true rfl) rfl ?_
  refine A_iconst (v := (0 : Int32)) dX3_sum_12 oI_0 ?_
  refine A_istore dX3_sum_13 (Nat.le_of_ble_eq_true rfl) rfl ?_
  exact (a_X3_sum_b15 (l := l) fu g_sum g_atom hd hD hg_sum hg_atom x1  fu _ _ _ _ _).sub ⟨rfl, rfl, rfl, rfl, rfl, rfl, trivial⟩
theorem a_X3_sum {l : Launch} (fu : Nat) {d dd : Nat} (g_sum : Int32 → xM → Option (Int32 × xM)) (g_atom : Int32 → xM → Option (Int32 × xM)) (hd : dd + 1 ≤ d) (hD : 3 ≤ d) (hg_sum : ∀ (a0 : Int32) (M : xM), AM SC l yX3_sum cX3_sum 8 (some .int) dd ki [xr 4, xi a0] M (g_sum a0 M)) (hg_atom : ∀ (a0 : Int32) (M : xM), AM SC l yX3_atom cX3_atom 4 (some .int) dd ki [xr 4, xi a0] M (g_atom a0 M))  (x1 : Int32) (M : xM)  : AM SC l yX3_sum cX3_sum 8 (some .int) d ki [xr 4, xi x1] M (F_X3_sum fu g_sum g_atom x1  M) :=
  AM.of (L0 := [some (xr 4), some (xi x1), none, none, none, none, none, none]) (w_X3_sum (l := l) fu g_sum g_atom hd hD hg_sum hg_atom x1  M ) (by decide +kernel) rfl (Nat.le_of_ble_eq_true rfl) ⟨rfl, rfl, trivial⟩
def F_X3_atom_b35 (fu : Nat) (g_sum : Int32 → xM → Option (Int32 × xM)) (g_atom : Int32 → xM → Option (Int32 × xM)) (x1 : Int32)  (x2 : Int32) (M : xM) : Option (Int32 × xM) :=
  (if (P_X3_isDigit x2 M) = 0 then
  (if (P_X3_bookOf x2 M) = (-1 : Int32) then
  (F_X3_stop M).bind fun q1 =>
  some ((0 : Int32), q1)
  else
  some ((P_X1_at 21 5 (P_X3_bookOf x2 M) (xset M 4 4 ((M 4 4) + (1 : Int32)))), (xset M 4 4 ((M 4 4) + (1 : Int32)))))
  else
  (F_X3_digits fu M).bind fun q2 =>
  some (q2.1, q2.2))
set_option maxRecDepth 100000 in
set_option maxHeartbeats 4000000 in
theorem a_X3_atom_b35 {l : Launch} (fu : Nat) {d dd : Nat} (g_sum : Int32 → xM → Option (Int32 × xM)) (g_atom : Int32 → xM → Option (Int32 × xM)) (hd : dd + 1 ≤ d) (hD : 3 ≤ d) (hg_sum : ∀ (a0 : Int32) (M : xM), AM SC l yX3_sum cX3_sum 8 (some .int) dd ki [xr 4, xi a0] M (g_sum a0 M)) (hg_atom : ∀ (a0 : Int32) (M : xM), AM SC l yX3_atom cX3_atom 4 (some .int) dd ki [xr 4, xi a0] M (g_atom a0 M)) (x1 : Int32)    (x2 : Int32) (M : xM)  : AW SC l RX3 cX3_atom 4 (some .int) d ki (F_X3_atom_b35 fu g_sum g_atom x1 x2 M) 35 [some (xr 4), none, some (xi x2), none] [] M := by
  unfold F_X3_atom_b35
  refine A_iload_n dX3_atom_35 rfl ?_
  refine A_callSp (a_X3_isDigit (l := l) _ _ ) lc_X3_81 rfl (by omega) (Nat.le_of_ble_eq_true rfl) rfl dX3_atom_36 ?_
  refine A_if_eq (tgt := 47) dX3_atom_39 (by decide) (fun _ => ?_) (fun _ => ?_)
  · refine A_iload_n dX3_atom_47 rfl ?_
    refine A_callSp (a_X3_bookOf (l := l) _ _ ) lc_X3_87 rfl (by omega) (Nat.le_of_ble_eq_true rfl) rfl dX3_atom_48 ?_
    refine A_istore_n dX3_atom_51 (Nat.le_of_ble_eq_true rfl) rfl ?_
    refine A_iload_n dX3_atom_52 rfl ?_
    refine A_iconst (v := (-1 : Int32)) dX3_atom_53 oI_m1 ?_
    refine A_icmp_ne (tgt := 63) dX3_atom_54 (by decide) (fun _ => ?_) (fun _ => ?_)
    · refine A_aload_n dX3_atom_57 rfl ?_
      refine A_callVv (a_X3_stop (l := l)  _ ) lc_X3_66 rfl rfl (by omega) (Nat.le_of_ble_eq_true rfl) rfl dX3_atom_58 (fun q1 hq1 => ?_)
      refine A_iconst (v := (0 : Int32)) dX3_atom_61 oI_0 ?_
      exact A_iret rfl dX3_atom_62
    · refine A_aload_n dX3_atom_63 rfl ?_
      refine A_dup dX3_atom_64 rfl ?_
      refine A_geti lf_X3_43 rfl rfl dX3_atom_65 ?_
      refine A_iconst (v := (1 : Int32)) dX3_atom_68 oI_1 ?_
      refine A_iadd dX3_atom_69 ?_
      refine A_puti lf_X3_43 rfl rfl dX3_atom_70 ?_
      refine A_aload_n dX3_atom_73 rfl ?_
      refine A_getr lf_X3_23 rfl rfl dX3_atom_74 ?_
      refine A_iload_n dX3_atom_77 rfl ?_
      refine A_callSp (a_X1_at (S := SC) (l := l) _ _ _ _ rfl) lc_X3_35 rfl (by omega) (Nat.le_of_ble_eq_true rfl) rfl dX3_atom_78 ?_
      exact A_iret rfl dX3_atom_81
  · refine A_aload_n dX3_atom_42 rfl ?_
    refine A_callVi (a_X3_digits (l := l) fu  _ ) lc_X3_84 rfl rfl (by omega) (Nat.le_of_ble_eq_true rfl) rfl dX3_atom_43 (fun q2 Mq2 hq2 => ?_)
    exact A_iret rfl dX3_atom_46
def F_X3_atom (fu : Nat) (g_sum : Int32 → xM → Option (Int32 × xM)) (g_atom : Int32 → xM → Option (Int32 × xM)) (x1 : Int32)   (M : xM) : Option (Int32 × xM) :=
  (F_X3_next fu M).bind fun q1 =>
  (if q1.1 = (91 : Int32) then
  (F_X3_goesDeeper x1 q1.2).bind fun q2 =>
  (if q2.1 = 0 then
  F_X3_atom_b35 fu g_sum g_atom x1 q1.1 q2.2
  else
  (g_sum (x1 + (1 : Int32)) q2.2).bind fun q3 =>
  (F_X3_expect fu (93 : Int32) q3.2).bind fun q4 =>
  some (q3.1, q4))
  else
  F_X3_atom_b35 fu g_sum g_atom x1 q1.1 q1.2)
set_option maxRecDepth 100000 in
set_option maxHeartbeats 4000000 in
theorem w_X3_atom {l : Launch} (fu : Nat) {d dd : Nat} (g_sum : Int32 → xM → Option (Int32 × xM)) (g_atom : Int32 → xM → Option (Int32 × xM)) (hd : dd + 1 ≤ d) (hD : 3 ≤ d) (hg_sum : ∀ (a0 : Int32) (M : xM), AM SC l yX3_sum cX3_sum 8 (some .int) dd ki [xr 4, xi a0] M (g_sum a0 M)) (hg_atom : ∀ (a0 : Int32) (M : xM), AM SC l yX3_atom cX3_atom 4 (some .int) dd ki [xr 4, xi a0] M (g_atom a0 M)) (x1 : Int32)     (M : xM)  : AW SC l RX3 cX3_atom 4 (some .int) d ki (F_X3_atom fu g_sum g_atom x1  M) 0 [some (xr 4), some (xi x1), none, none] [] M := by
  unfold F_X3_atom
  refine A_aload_n dX3_atom_0 rfl ?_
  refine A_callVi (a_X3_next (l := l) fu  _ ) lc_X3_50 rfl rfl (by omega) (Nat.le_of_ble_eq_true rfl) rfl dX3_atom_1 (fun q1 Mq1 hq1 => ?_)
  refine A_istore_n dX3_atom_4 (Nat.le_of_ble_eq_true rfl) rfl ?_
  refine A_iload_n dX3_atom_5 rfl ?_
  refine A_bipush (v := (91 : Int32)) dX3_atom_6 oB_91 ?_
  refine A_icmp_ne (tgt := 35) dX3_atom_8 (by decide) (fun _ => ?_) (fun _ => ?_)
  · refine A_aload_n dX3_atom_11 rfl ?_
    refine A_iload_n dX3_atom_12 rfl ?_
    refine A_callVi (a_X3_goesDeeper (l := l) _ _ ) lc_X3_72 rfl rfl (by omega) (Nat.le_of_ble_eq_true rfl) rfl dX3_atom_13 (fun q2 Mq2 hq2 => ?_)
    refine A_if_eq (tgt := 35) dX3_atom_16 (by decide) (fun _ => ?_) (fun _ => ?_)
    · exact (a_X3_atom_b35 (l := l) fu g_sum g_atom hd hD hg_sum hg_atom x1  _ _ ).sub ⟨rfl, rfl, trivial⟩
    · refine A_aload_n dX3_atom_19 rfl ?_
      refine A_iload_n dX3_atom_20 rfl ?_
      refine A_iconst (v := (1 : Int32)) dX3_atom_21 oI_1 ?_
      refine A_iadd dX3_atom_22 ?_
      refine A_callVi (hg_sum _ _) lc_X3_54 rfl rfl hd (Nat.le_of_ble_eq_true rfl) rfl dX3_atom_23 (fun q3 Mq3 hq3 => ?_)
      refine A_istore_n dX3_atom_26 (Nat.le_of_ble_eq_true rfl) rfl ?_
      refine A_aload_n dX3_atom_27 rfl ?_
      refine A_bipush (v := (93 : Int32)) dX3_atom_28 oB_93 ?_
      refine A_callVv (a_X3_expect (l := l) fu _ _ ) lc_X3_46 rfl rfl (by omega) (Nat.le_of_ble_eq_true rfl) rfl dX3_atom_30 (fun q4 hq4 => ?_)
      refine A_iload_n dX3_atom_33 rfl ?_
      exact A_iret rfl dX3_atom_34
  · exact (a_X3_atom_b35 (l := l) fu g_sum g_atom hd hD hg_sum hg_atom x1  _ _ ).sub ⟨rfl, rfl, trivial⟩
theorem a_X3_atom {l : Launch} (fu : Nat) {d dd : Nat} (g_sum : Int32 → xM → Option (Int32 × xM)) (g_atom : Int32 → xM → Option (Int32 × xM)) (hd : dd + 1 ≤ d) (hD : 3 ≤ d) (hg_sum : ∀ (a0 : Int32) (M : xM), AM SC l yX3_sum cX3_sum 8 (some .int) dd ki [xr 4, xi a0] M (g_sum a0 M)) (hg_atom : ∀ (a0 : Int32) (M : xM), AM SC l yX3_atom cX3_atom 4 (some .int) dd ki [xr 4, xi a0] M (g_atom a0 M))  (x1 : Int32) (M : xM)  : AM SC l yX3_atom cX3_atom 4 (some .int) d ki [xr 4, xi x1] M (F_X3_atom fu g_sum g_atom x1  M) :=
  AM.of (L0 := [some (xr 4), some (xi x1), none, none]) (w_X3_atom (l := l) fu g_sum g_atom hd hD hg_sum hg_atom x1  M ) (by decide +kernel) rfl (Nat.le_of_ble_eq_true rfl) ⟨rfl, rfl, trivial⟩
def R_X3_sum_atom (fu : Nat) : Nat → (Int32 → xM → Option (Int32 × xM)) × (Int32 → xM → Option (Int32 × xM))
  | 0 => (fun _ _ => none, fun _ _ => none)
  | n + 1 => (fun a0 M => F_X3_sum fu (R_X3_sum_atom fu n).1 (R_X3_sum_atom fu n).2 a0 M, fun a0 M => F_X3_atom fu (R_X3_sum_atom fu n).1 (R_X3_sum_atom fu n).2 a0 M)
theorem R_X3_sum_atom_ok {l : Launch} (fu : Nat) : ∀ n : Nat, (∀ (a0 : Int32) (M : xM), AM SC l yX3_sum cX3_sum 8 (some .int) (3 + n) ki [xr 4, xi a0] M ((R_X3_sum_atom fu n).1 a0 M)) ∧ (∀ (a0 : Int32) (M : xM), AM SC l yX3_atom cX3_atom 4 (some .int) (3 + n) ki [xr 4, xi a0] M ((R_X3_sum_atom fu n).2 a0 M)) := by
  intro n
  induction n with
  | zero => exact ⟨fun _ _ q h => (by cases h), fun _ _ q h => (by cases h)⟩
  | succ n ih =>
    obtain ⟨h0, h1⟩ := ih
    exact ⟨fun a0 M => a_X3_sum (l := l) fu _ _ (by omega) (by omega) h0 h1 a0 M, fun a0 M => a_X3_atom (l := l) fu _ _ (by omega) (by omega) h0 h1 a0 M⟩
def T_X3_sum (fu : Nat) (a0 : Int32) (M : xM) : Option (Int32 × xM) := (R_X3_sum_atom fu 30).1 a0 M
theorem t_X3_sum {l : Launch} (fu : Nat) (a0 : Int32) (M : xM) : AM SC l yX3_sum cX3_sum 8 (some .int) 33 ki [xr 4, xi a0] M (T_X3_sum fu a0 M) := (R_X3_sum_atom_ok (l := l) fu 30).1 a0 M
def T_X3_atom (fu : Nat) (a0 : Int32) (M : xM) : Option (Int32 × xM) := (R_X3_sum_atom fu 30).2 a0 M
theorem t_X3_atom {l : Launch} (fu : Nat) (a0 : Int32) (M : xM) : AM SC l yX3_atom cX3_atom 4 (some .int) 33 ki [xr 4, xi a0] M (T_X3_atom fu a0 M) := (R_X3_sum_atom_ok (l := l) fu 30).2 a0 M
def P_X3_isComparison_b18  (x0 : Int32)   (M : xM) : Int32 :=
  (1 : Int32)
set_option maxRecDepth 100000 in
set_option maxHeartbeats 4000000 in
theorem a_X3_isComparison_b18 {l : Launch} (x0 : Int32)     (M : xM)  : AW SC l RX3 cX3_isComparison 1 (some .boolean) 0 ki (some (P_X3_isComparison_b18 x0  M, M)) 18 [none] [] M := by
  unfold P_X3_isComparison_b18
  refine A_iconst (v := (1 : Int32)) dX3_isComparison_18 oI_1 ?_
  refine A_goto (tgt := 23) dX3_isComparison_19 (by decide) ?_
  exact A_zret' rfl (Or.inr rfl) dX3_isComparison_23
def P_X3_isComparison  (x0 : Int32)   (M : xM) : Int32 :=
  (if x0 = (61 : Int32) then
  P_X3_isComparison_b18 x0  M
  else
  (if x0 = (60 : Int32) then
  P_X3_isComparison_b18 x0  M
  else
  (if x0 = (62 : Int32) then
  P_X3_isComparison_b18 x0  M
  else
  (0 : Int32))))
set_option maxRecDepth 100000 in
set_option maxHeartbeats 4000000 in
theorem w_X3_isComparison {l : Launch} (x0 : Int32)     (M : xM)  : AW SC l RX3 cX3_isComparison 1 (some .boolean) 0 ki (some (P_X3_isComparison x0  M, M)) 0 [some (xi x0)] [] M := by
  unfold P_X3_isComparison
  refine A_iload_n dX3_isComparison_0 rfl ?_
  refine A_bipush (v := (61 : Int32)) dX3_isComparison_1 oB_61 ?_
  refine A_icmp_eq_p (tgt := 18) dX3_isComparison_3 (by decide) (fun _ => ?_) (fun _ => ?_)
  · exact (a_X3_isComparison_b18 (l := l) x0   _ ).sub trivial
  · refine A_iload_n dX3_isComparison_6 rfl ?_
    refine A_bipush (v := (60 : Int32)) dX3_isComparison_7 oB_60 ?_
    refine A_icmp_eq_p (tgt := 18) dX3_isComparison_9 (by decide) (fun _ => ?_) (fun _ => ?_)
    · exact (a_X3_isComparison_b18 (l := l) x0   _ ).sub trivial
    · refine A_iload_n dX3_isComparison_12 rfl ?_
      refine A_bipush (v := (62 : Int32)) dX3_isComparison_13 oB_62 ?_
      refine A_icmp_ne_p (tgt := 22) dX3_isComparison_15 (by decide) (fun _ => ?_) (fun _ => ?_)
      · exact (a_X3_isComparison_b18 (l := l) x0   _ ).sub trivial
      · refine A_iconst (v := (0 : Int32)) dX3_isComparison_22 oI_0 ?_
        exact A_zret' rfl (Or.inl rfl) dX3_isComparison_23
theorem a_X3_isComparison {l : Launch}  (x0 : Int32) (M : xM)  : AM SC l yX3_isComparison cX3_isComparison 1 (some .boolean) 0 ki [xi x0] M (some (P_X3_isComparison  x0  M, M)) :=
  AM.of (L0 := [some (xi x0)]) (w_X3_isComparison (l := l) x0  M ) (by decide +kernel) rfl (Nat.le_of_ble_eq_true rfl) ⟨rfl, trivial⟩
theorem zP_X3_isComparison (x0 : Int32) (M : xM) : P_X3_isComparison x0 M = 0 ∨ P_X3_isComparison x0 M = 1 := by
  unfold P_X3_isComparison
  try unfold P_X3_isComparison_b18
  repeat' split
  all_goals first | decide
def F_X3_condition_b130 (fu : Nat) (g_condition : Int32 → Int32 → Int32 → xM → Option (Int32 × xM)) (g_unit : Int32 → Int32 → Int32 → xM → Option (Int32 × xM)) (x1 : Int32) (x2 : Int32) (x3 : Int32)   (M : xM) : Option (Int32 × xM) :=
  some ((1 : Int32), M)
set_option maxRecDepth 100000 in
set_option maxHeartbeats 4000000 in
theorem a_X3_condition_b130 {l : Launch} (fu : Nat) {d dd : Nat} (g_condition : Int32 → Int32 → Int32 → xM → Option (Int32 × xM)) (g_unit : Int32 → Int32 → Int32 → xM → Option (Int32 × xM)) (hd : dd + 1 ≤ d) (hD : 34 ≤ d) (hg_condition : ∀ (a0 a1 a2 : Int32) (M : xM), AM SC l yX3_condition cX3_condition 9 (some .boolean) dd ki [xr 4, xi a0, xi a1, xi a2] M (g_condition a0 a1 a2 M)) (hg_unit : ∀ (a0 a1 a2 : Int32) (M : xM), AM SC l yX3_unit cX3_unit 8 (some .boolean) dd ki [xr 4, xi a0, xi a1, xi a2] M (g_unit a0 a1 a2 M)) (x1 : Int32) (x2 : Int32) (x3 : Int32)     (M : xM)  : AW SC l RX3 cX3_condition 9 (some .boolean) d ki (F_X3_condition_b130 fu g_condition g_unit x1 x2 x3  M) 130 [none, none, none, none, none, none, none, none, none] [] M := by
  unfold F_X3_condition_b130
  refine A_iconst (v := (1 : Int32)) dX3_condition_130 oI_1 ?_
  refine A_goto (tgt := 135) dX3_condition_131 (by decide) ?_
  exact A_zret' rfl (Or.inr rfl) dX3_condition_135
def F_X3_condition_b120 (fu : Nat) (g_condition : Int32 → Int32 → Int32 → xM → Option (Int32 × xM)) (g_unit : Int32 → Int32 → Int32 → xM → Option (Int32 × xM)) (x1 : Int32) (x2 : Int32) (x3 : Int32)  (x4 : Int32) (x5 : Int32) (M : xM) : Option (Int32 × xM) :=
  (if x4 = 0 then
  (if x5 = 0 then
  some ((0 : Int32), M)
  else
  F_X3_condition_b130 fu g_condition g_unit x1 x2 x3  M)
  else
  F_X3_condition_b130 fu g_condition g_unit x1 x2 x3  M)
set_option maxRecDepth 100000 in
set_option maxHeartbeats 4000000 in
theorem a_X3_condition_b120 {l : Launch} (fu : Nat) {d dd : Nat} (g_condition : Int32 → Int32 → Int32 → xM → Option (Int32 × xM)) (g_unit : Int32 → Int32 → Int32 → xM → Option (Int32 × xM)) (hd : dd + 1 ≤ d) (hD : 34 ≤ d) (hg_condition : ∀ (a0 a1 a2 : Int32) (M : xM), AM SC l yX3_condition cX3_condition 9 (some .boolean) dd ki [xr 4, xi a0, xi a1, xi a2] M (g_condition a0 a1 a2 M)) (hg_unit : ∀ (a0 a1 a2 : Int32) (M : xM), AM SC l yX3_unit cX3_unit 8 (some .boolean) dd ki [xr 4, xi a0, xi a1, xi a2] M (g_unit a0 a1 a2 M)) (x1 : Int32) (x2 : Int32) (x3 : Int32)    (x4 : Int32) (x5 : Int32) (M : xM)  : AW SC l RX3 cX3_condition 9 (some .boolean) d ki (F_X3_condition_b120 fu g_condition g_unit x1 x2 x3 x4 x5 M) 120 [none, none, none, none, some (xi x4), some (xi x5), none, none, none] [] M := by
  unfold F_X3_condition_b120
  refine A_iload dX3_condition_120 rfl ?_
  refine A_if_ne (tgt := 130) dX3_condition_122 (by decide) (fun _ => ?_) (fun _ => ?_)
  · refine A_iload dX3_condition_125 rfl ?_
    refine A_if_eq (tgt := 134) dX3_condition_127 (by decide) (fun _ => ?_) (fun _ => ?_)
    · refine A_iconst (v := (0 : Int32)) dX3_condition_134 oI_0 ?_
      exact A_zret' rfl (Or.inl rfl) dX3_condition_135
    · exact (a_X3_condition_b130 (l := l) fu g_condition g_unit hd hD hg_condition hg_unit x1 x2 x3   _ ).sub trivial
  · exact (a_X3_condition_b130 (l := l) fu g_condition g_unit hd hD hg_condition hg_unit x1 x2 x3   _ ).sub trivial
def F_X3_condition_b114 (fu : Nat) (g_condition : Int32 → Int32 → Int32 → xM → Option (Int32 × xM)) (g_unit : Int32 → Int32 → Int32 → xM → Option (Int32 × xM)) (x1 : Int32) (x2 : Int32) (x3 : Int32) (k15 : Int32 → Int32 → Int32 → xM → Option (Int32 × xM)) (x4 : Int32) (x5 : Int32) (x6 : Int32) (M : xM) : Option (Int32 × xM) :=
  k15 x4 x5 (x6 + (1 : Int32)) M
set_option maxRecDepth 100000 in
set_option maxHeartbeats 4000000 in
theorem a_X3_condition_b114 {l : Launch} (fu : Nat) {d dd : Nat} (g_condition : Int32 → Int32 → Int32 → xM → Option (Int32 × xM)) (g_unit : Int32 → Int32 → Int32 → xM → Option (Int32 × xM)) (hd : dd + 1 ≤ d) (hD : 34 ≤ d) (hg_condition : ∀ (a0 a1 a2 : Int32) (M : xM), AM SC l yX3_condition cX3_condition 9 (some .boolean) dd ki [xr 4, xi a0, xi a1, xi a2] M (g_condition a0 a1 a2 M)) (hg_unit : ∀ (a0 a1 a2 : Int32) (M : xM), AM SC l yX3_unit cX3_unit 8 (some .boolean) dd ki [xr 4, xi a0, xi a1, xi a2] M (g_unit a0 a1 a2 M)) (x1 : Int32) (x2 : Int32) (x3 : Int32)  {k15 : Int32 → Int32 → Int32 → xM → Option (Int32 × xM)} (hk15 : ∀ (b0 : Int32) (b1 : Int32) (b2 : Int32) (M : xM), AW SC l RX3 cX3_condition 9 (some .boolean) d ki (k15 b0 b1 b2 M) 15 [some (xr 4), some (xi x1), none, none, some (xi b0), some (xi b1), some (xi b2), none, none] [] M) (x4 : Int32) (x5 : Int32) (x6 : Int32) (M : xM)  : AW SC l RX3 cX3_condition 9 (some .boolean) d ki (F_X3_condition_b114 fu g_condition g_unit x1 x2 x3 k15 x4 x5 x6 M) 114 [some (xr 4), some (xi x1), none, none, some (xi x4), some (xi x5), some (xi x6), none, none] [] M := by
  unfold F_X3_condition_b114
  refine A_iinc dX3_condition_114 rfl oI_1 (Nat.le_of_ble_eq_true rfl) rfl ?_
  refine A_goto (tgt := 15) dX3_condition_117 (by decide) ?_
  exact (hk15 _ _ _ _).sub ⟨rfl, rfl, rfl, rfl, rfl, trivial⟩
def F_X3_condition_b88 (fu : Nat) (g_condition : Int32 → Int32 → Int32 → xM → Option (Int32 × xM)) (g_unit : Int32 → Int32 → Int32 → xM → Option (Int32 × xM)) (x1 : Int32) (x2 : Int32) (x3 : Int32) (k15 : Int32 → Int32 → Int32 → xM → Option (Int32 × xM)) (x4 : Int32) (x6 : Int32) (s0 : Int32) (M : xM) : Option (Int32 × xM) :=
  F_X3_condition_b114 fu g_condition g_unit x1 x2 x3 k15 x4 s0 x6 M
set_option maxRecDepth 100000 in
set_option maxHeartbeats 4000000 in
theorem a_X3_condition_b88 {l : Launch} (fu : Nat) {d dd : Nat} (g_condition : Int32 → Int32 → Int32 → xM → Option (Int32 × xM)) (g_unit : Int32 → Int32 → Int32 → xM → Option (Int32 × xM)) (hd : dd + 1 ≤ d) (hD : 34 ≤ d) (hg_condition : ∀ (a0 a1 a2 : Int32) (M : xM), AM SC l yX3_condition cX3_condition 9 (some .boolean) dd ki [xr 4, xi a0, xi a1, xi a2] M (g_condition a0 a1 a2 M)) (hg_unit : ∀ (a0 a1 a2 : Int32) (M : xM), AM SC l yX3_unit cX3_unit 8 (some .boolean) dd ki [xr 4, xi a0, xi a1, xi a2] M (g_unit a0 a1 a2 M)) (x1 : Int32) (x2 : Int32) (x3 : Int32)  {k15 : Int32 → Int32 → Int32 → xM → Option (Int32 × xM)} (hk15 : ∀ (b0 : Int32) (b1 : Int32) (b2 : Int32) (M : xM), AW SC l RX3 cX3_condition 9 (some .boolean) d ki (k15 b0 b1 b2 M) 15 [some (xr 4), some (xi x1), none, none, some (xi b0), some (xi b1), some (xi b2), none, none] [] M) (x4 : Int32) (x6 : Int32) (s0 : Int32) (M : xM)  : AW SC l RX3 cX3_condition 9 (some .boolean) d ki (F_X3_condition_b88 fu g_condition g_unit x1 x2 x3 k15 x4 x6 s0 M) 88 [some (xr 4), some (xi x1), none, none, some (xi x4), none, some (xi x6), none, none] [xi s0] M := by
  unfold F_X3_condition_b88
  refine A_istore dX3_condition_88 (Nat.le_of_ble_eq_true rfl) rfl ?_
  refine A_goto (tgt := 114) dX3_condition_90 (by decide) ?_
  exact (a_X3_condition_b114 (l := l) fu g_condition g_unit hd hD hg_condition hg_unit x1 x2 x3 hk15 _ _ _ _ ).sub ⟨rfl, rfl, rfl, rfl, rfl, trivial⟩
def F_X3_condition_b87 (fu : Nat) (g_condition : Int32 → Int32 → Int32 → xM → Option (Int32 × xM)) (g_unit : Int32 → Int32 → Int32 → xM → Option (Int32 × xM)) (x1 : Int32) (x2 : Int32) (x3 : Int32) (k15 : Int32 → Int32 → Int32 → xM → Option (Int32 × xM)) (x4 : Int32) (x6 : Int32) (M : xM) : Option (Int32 × xM) :=
  F_X3_condition_b88 fu g_condition g_unit x1 x2 x3 k15 x4 x6 (0 : Int32) M
set_option maxRecDepth 100000 in
set_option maxHeartbeats 4000000 in
theorem a_X3_condition_b87 {l : Launch} (fu : Nat) {d dd : Nat} (g_condition : Int32 → Int32 → Int32 → xM → Option (Int32 × xM)) (g_unit : Int32 → Int32 → Int32 → xM → Option (Int32 × xM)) (hd : dd + 1 ≤ d) (hD : 34 ≤ d) (hg_condition : ∀ (a0 a1 a2 : Int32) (M : xM), AM SC l yX3_condition cX3_condition 9 (some .boolean) dd ki [xr 4, xi a0, xi a1, xi a2] M (g_condition a0 a1 a2 M)) (hg_unit : ∀ (a0 a1 a2 : Int32) (M : xM), AM SC l yX3_unit cX3_unit 8 (some .boolean) dd ki [xr 4, xi a0, xi a1, xi a2] M (g_unit a0 a1 a2 M)) (x1 : Int32) (x2 : Int32) (x3 : Int32)  {k15 : Int32 → Int32 → Int32 → xM → Option (Int32 × xM)} (hk15 : ∀ (b0 : Int32) (b1 : Int32) (b2 : Int32) (M : xM), AW SC l RX3 cX3_condition 9 (some .boolean) d ki (k15 b0 b1 b2 M) 15 [some (xr 4), some (xi x1), none, none, some (xi b0), some (xi b1), some (xi b2), none, none] [] M) (x4 : Int32) (x6 : Int32) (M : xM)  : AW SC l RX3 cX3_condition 9 (some .boolean) d ki (F_X3_condition_b87 fu g_condition g_unit x1 x2 x3 k15 x4 x6 M) 87 [some (xr 4), some (xi x1), none, none, some (xi x4), none, some (xi x6), none, none] [] M := by
  unfold F_X3_condition_b87
  refine A_iconst (v := (0 : Int32)) dX3_condition_87 oI_0 ?_
  exact (a_X3_condition_b88 (l := l) fu g_condition g_unit hd hD hg_condition hg_unit x1 x2 x3 hk15 _ _ _ _ ).sub ⟨rfl, rfl, rfl, rfl, trivial⟩
def F_X3_condition_b108 (fu : Nat) (g_condition : Int32 → Int32 → Int32 → xM → Option (Int32 × xM)) (g_unit : Int32 → Int32 → Int32 → xM → Option (Int32 × xM)) (x1 : Int32) (x2 : Int32) (x3 : Int32) (k15 : Int32 → Int32 → Int32 → xM → Option (Int32 × xM)) (x6 : Int32) (x8 : Int32) (s0 : Int32) (M : xM) : Option (Int32 × xM) :=
  F_X3_condition_b114 fu g_condition g_unit x1 x2 x3 k15 s0 x8 x6 M
set_option maxRecDepth 100000 in
set_option maxHeartbeats 4000000 in
theorem a_X3_condition_b108 {l : Launch} (fu : Nat) {d dd : Nat} (g_condition : Int32 → Int32 → Int32 → xM → Option (Int32 × xM)) (g_unit : Int32 → Int32 → Int32 → xM → Option (Int32 × xM)) (hd : dd + 1 ≤ d) (hD : 34 ≤ d) (hg_condition : ∀ (a0 a1 a2 : Int32) (M : xM), AM SC l yX3_condition cX3_condition 9 (some .boolean) dd ki [xr 4, xi a0, xi a1, xi a2] M (g_condition a0 a1 a2 M)) (hg_unit : ∀ (a0 a1 a2 : Int32) (M : xM), AM SC l yX3_unit cX3_unit 8 (some .boolean) dd ki [xr 4, xi a0, xi a1, xi a2] M (g_unit a0 a1 a2 M)) (x1 : Int32) (x2 : Int32) (x3 : Int32)  {k15 : Int32 → Int32 → Int32 → xM → Option (Int32 × xM)} (hk15 : ∀ (b0 : Int32) (b1 : Int32) (b2 : Int32) (M : xM), AW SC l RX3 cX3_condition 9 (some .boolean) d ki (k15 b0 b1 b2 M) 15 [some (xr 4), some (xi x1), none, none, some (xi b0), some (xi b1), some (xi b2), none, none] [] M) (x6 : Int32) (x8 : Int32) (s0 : Int32) (M : xM)  : AW SC l RX3 cX3_condition 9 (some .boolean) d ki (F_X3_condition_b108 fu g_condition g_unit x1 x2 x3 k15 x6 x8 s0 M) 108 [some (xr 4), some (xi x1), none, none, none, none, some (xi x6), none, some (xi x8)] [xi s0] M := by
  unfold F_X3_condition_b108
  refine A_istore dX3_condition_108 (Nat.le_of_ble_eq_true rfl) rfl ?_
  refine A_iload dX3_condition_110 rfl ?_
  refine A_istore dX3_condition_112 (Nat.le_of_ble_eq_true rfl) rfl ?_
  exact (a_X3_condition_b114 (l := l) fu g_condition g_unit hd hD hg_condition hg_unit x1 x2 x3 hk15 _ _ _ _ ).sub ⟨rfl, rfl, rfl, rfl, rfl, trivial⟩
def F_X3_condition_b103 (fu : Nat) (g_condition : Int32 → Int32 → Int32 → xM → Option (Int32 × xM)) (g_unit : Int32 → Int32 → Int32 → xM → Option (Int32 × xM)) (x1 : Int32) (x2 : Int32) (x3 : Int32) (k15 : Int32 → Int32 → Int32 → xM → Option (Int32 × xM)) (x6 : Int32) (x8 : Int32) (M : xM) : Option (Int32 × xM) :=
  F_X3_condition_b108 fu g_condition g_unit x1 x2 x3 k15 x6 x8 (1 : Int32) M
set_option maxRecDepth 100000 in
set_option maxHeartbeats 4000000 in
theorem a_X3_condition_b103 {l : Launch} (fu : Nat) {d dd : Nat} (g_condition : Int32 → Int32 → Int32 → xM → Option (Int32 × xM)) (g_unit : Int32 → Int32 → Int32 → xM → Option (Int32 × xM)) (hd : dd + 1 ≤ d) (hD : 34 ≤ d) (hg_condition : ∀ (a0 a1 a2 : Int32) (M : xM), AM SC l yX3_condition cX3_condition 9 (some .boolean) dd ki [xr 4, xi a0, xi a1, xi a2] M (g_condition a0 a1 a2 M)) (hg_unit : ∀ (a0 a1 a2 : Int32) (M : xM), AM SC l yX3_unit cX3_unit 8 (some .boolean) dd ki [xr 4, xi a0, xi a1, xi a2] M (g_unit a0 a1 a2 M)) (x1 : Int32) (x2 : Int32) (x3 : Int32)  {k15 : Int32 → Int32 → Int32 → xM → Option (Int32 × xM)} (hk15 : ∀ (b0 : Int32) (b1 : Int32) (b2 : Int32) (M : xM), AW SC l RX3 cX3_condition 9 (some .boolean) d ki (k15 b0 b1 b2 M) 15 [some (xr 4), some (xi x1), none, none, some (xi b0), some (xi b1), some (xi b2), none, none] [] M) (x6 : Int32) (x8 : Int32) (M : xM)  : AW SC l RX3 cX3_condition 9 (some .boolean) d ki (F_X3_condition_b103 fu g_condition g_unit x1 x2 x3 k15 x6 x8 M) 103 [some (xr 4), some (xi x1), none, none, none, none, some (xi x6), none, some (xi x8)] [] M := by
  unfold F_X3_condition_b103
  refine A_iconst (v := (1 : Int32)) dX3_condition_103 oI_1 ?_
  refine A_goto (tgt := 108) dX3_condition_104 (by decide) ?_
  exact (a_X3_condition_b108 (l := l) fu g_condition g_unit hd hD hg_condition hg_unit x1 x2 x3 hk15 _ _ _ _ ).sub ⟨rfl, rfl, rfl, rfl, trivial⟩
def F_X3_condition_b47 (fu : Nat) (g_condition : Int32 → Int32 → Int32 → xM → Option (Int32 × xM)) (g_unit : Int32 → Int32 → Int32 → xM → Option (Int32 × xM)) (x1 : Int32) (x2 : Int32) (x3 : Int32) (k15 : Int32 → Int32 → Int32 → xM → Option (Int32 × xM)) (x4 : Int32) (x5 : Int32) (x6 : Int32) (x7 : Int32) (M : xM) : Option (Int32 × xM) :=
  (g_unit x1 (0 : Int32) (0 : Int32) (xset M 4 4 ((M 4 4) + (1 : Int32)))).bind fun q1 =>
  (if x7 = (38 : Int32) then
  (if x5 = 0 then
  F_X3_condition_b87 fu g_condition g_unit x1 x2 x3 k15 x4 x6 q1.2
  else
  (if q1.1 = 0 then
  F_X3_condition_b87 fu g_condition g_unit x1 x2 x3 k15 x4 x6 q1.2
  else
  F_X3_condition_b88 fu g_condition g_unit x1 x2 x3 k15 x4 x6 (1 : Int32) q1.2))
  else
  (if x4 = 0 then
  (if x5 = 0 then
  F_X3_condition_b108 fu g_condition g_unit x1 x2 x3 k15 x6 q1.1 (0 : Int32) q1.2
  else
  F_X3_condition_b103 fu g_condition g_unit x1 x2 x3 k15 x6 q1.1 q1.2)
  else
  F_X3_condition_b103 fu g_condition g_unit x1 x2 x3 k15 x6 q1.1 q1.2))
set_option maxRecDepth 100000 in
set_option maxHeartbeats 4000000 in
theorem a_X3_condition_b47 {l : Launch} (fu : Nat) {d dd : Nat} (g_condition : Int32 → Int32 → Int32 → xM → Option (Int32 × xM)) (g_unit : Int32 → Int32 → Int32 → xM → Option (Int32 × xM)) (hd : dd + 1 ≤ d) (hD : 34 ≤ d) (hg_condition : ∀ (a0 a1 a2 : Int32) (M : xM), AM SC l yX3_condition cX3_condition 9 (some .boolean) dd ki [xr 4, xi a0, xi a1, xi a2] M (g_condition a0 a1 a2 M)) (hg_unit : ∀ (a0 a1 a2 : Int32) (M : xM), AM SC l yX3_unit cX3_unit 8 (some .boolean) dd ki [xr 4, xi a0, xi a1, xi a2] M (g_unit a0 a1 a2 M)) (x1 : Int32) (x2 : Int32) (x3 : Int32)  {k15 : Int32 → Int32 → Int32 → xM → Option (Int32 × xM)} (hk15 : ∀ (b0 : Int32) (b1 : Int32) (b2 : Int32) (M : xM), AW SC l RX3 cX3_condition 9 (some .boolean) d ki (k15 b0 b1 b2 M) 15 [some (xr 4), some (xi x1), none, none, some (xi b0), some (xi b1), some (xi b2), none, none] [] M) (x4 : Int32) (x5 : Int32) (x6 : Int32) (x7 : Int32) (M : xM)  : AW SC l RX3 cX3_condition 9 (some .boolean) d ki (F_X3_condition_b47 fu g_condition g_unit x1 x2 x3 k15 x4 x5 x6 x7 M) 47 [some (xr 4), some (xi x1), none, none, some (xi x4), some (xi x5), some (xi x6), some (xi x7), none] [] M := by
  unfold F_X3_condition_b47
  refine A_aload_n dX3_condition_47 rfl ?_
  refine A_dup dX3_condition_48 rfl ?_
  refine A_geti lf_X3_43 rfl rfl dX3_condition_49 ?_
  refine A_iconst (v := (1 : Int32)) dX3_condition_52 oI_1 ?_
  refine A_iadd dX3_condition_53 ?_
  refine A_puti lf_X3_43 rfl rfl dX3_condition_54 ?_
  refine A_aload_n dX3_condition_57 rfl ?_
  refine A_iload_n dX3_condition_58 rfl ?_
  refine A_iconst (v := (0 : Int32)) dX3_condition_59 oI_0 ?_
  refine A_iconst (v := (0 : Int32)) dX3_condition_60 oI_0 ?_
  refine A_callVi (hg_unit _ _ _ _) lc_X3_69 rfl rfl hd (Nat.le_of_ble_eq_true rfl) rfl dX3_condition_61 (fun q1 Mq1 hq1 => ?_)
  refine A_istore dX3_condition_64 (Nat.le_of_ble_eq_true rfl) rfl ?_
  refine A_iload dX3_condition_66 rfl ?_
  refine A_bipush (v := (38 : Int32)) dX3_condition_68 oB_38 ?_
  refine A_icmp_ne (tgt := 93) dX3_condition_70 (by decide) (fun _ => ?_) (fun _ => ?_)
  · refine A_iload dX3_condition_73 rfl ?_
    refine A_if_eq (tgt := 87) dX3_condition_75 (by decide) (fun _ => ?_) (fun _ => ?_)
    · exact (a_X3_condition_b87 (l := l) fu g_condition g_unit hd hD hg_condition hg_unit x1 x2 x3 hk15 _ _ _ ).sub ⟨rfl, rfl, rfl, rfl, trivial⟩
    · refine A_iload dX3_condition_78 rfl ?_
      refine A_if_eq (tgt := 87) dX3_condition_80 (by decide) (fun _ => ?_) (fun _ => ?_)
      · exact (a_X3_condition_b87 (l := l) fu g_condition g_unit hd hD hg_condition hg_unit x1 x2 x3 hk15 _ _ _ ).sub ⟨rfl, rfl, rfl, rfl, trivial⟩
      · refine A_iconst (v := (1 : Int32)) dX3_condition_83 oI_1 ?_
        refine A_goto (tgt := 88) dX3_condition_84 (by decide) ?_
        exact (a_X3_condition_b88 (l := l) fu g_condition g_unit hd hD hg_condition hg_unit x1 x2 x3 hk15 _ _ _ _ ).sub ⟨rfl, rfl, rfl, rfl, trivial⟩
  · refine A_iload dX3_condition_93 rfl ?_
    refine A_if_ne (tgt := 103) dX3_condition_95 (by decide) (fun _ => ?_) (fun _ => ?_)
    · refine A_iload dX3_condition_98 rfl ?_
      refine A_if_eq (tgt := 107) dX3_condition_100 (by decide) (fun _ => ?_) (fun _ => ?_)
      · refine A_iconst (v := (0 : Int32)) dX3_condition_107 oI_0 ?_
        exact (a_X3_condition_b108 (l := l) fu g_condition g_unit hd hD hg_condition hg_unit x1 x2 x3 hk15 _ _ _ _ ).sub ⟨rfl, rfl, rfl, rfl, trivial⟩
      · exact (a_X3_condition_b103 (l := l) fu g_condition g_unit hd hD hg_condition hg_unit x1 x2 x3 hk15 _ _ _ ).sub ⟨rfl, rfl, rfl, rfl, trivial⟩
    · exact (a_X3_condition_b103 (l := l) fu g_condition g_unit hd hD hg_condition hg_unit x1 x2 x3 hk15 _ _ _ ).sub ⟨rfl, rfl, rfl, rfl, trivial⟩
def F_X3_condition_b15 (fu : Nat) (g_condition : Int32 → Int32 → Int32 → xM → Option (Int32 × xM)) (g_unit : Int32 → Int32 → Int32 → xM → Option (Int32 × xM)) (x1 : Int32) (x2 : Int32) (x3 : Int32)  : Nat → Int32 → Int32 → Int32 → xM → Option (Int32 × xM)
  | 0, _, _, _, _ => none
  | n + 1, x4, x5, x6, M =>
    (if (M 4 3) ≤ x6 then
    F_X3_condition_b120 fu g_condition g_unit x1 x2 x3 x4 x5 M
    else
    (F_X3_next fu M).bind fun q1 =>
    (if q1.1 = (38 : Int32) then
    F_X3_condition_b47 fu g_condition g_unit x1 x2 x3 (F_X3_condition_b15 fu g_condition g_unit x1 x2 x3 n) x4 x5 x6 q1.1 q1.2
    else
    (if q1.1 = (124 : Int32) then
    F_X3_condition_b47 fu g_condition g_unit x1 x2 x3 (F_X3_condition_b15 fu g_condition g_unit x1 x2 x3 n) x4 x5 x6 q1.1 q1.2
    else
    F_X3_condition_b120 fu g_condition g_unit x1 x2 x3 x4 x5 q1.2)))
set_option maxRecDepth 100000 in
set_option maxHeartbeats 4000000 in
theorem a_X3_condition_b15 {l : Launch} (fu : Nat) {d dd : Nat} (g_condition : Int32 → Int32 → Int32 → xM → Option (Int32 × xM)) (g_unit : Int32 → Int32 → Int32 → xM → Option (Int32 × xM)) (hd : dd + 1 ≤ d) (hD : 34 ≤ d) (hg_condition : ∀ (a0 a1 a2 : Int32) (M : xM), AM SC l yX3_condition cX3_condition 9 (some .boolean) dd ki [xr 4, xi a0, xi a1, xi a2] M (g_condition a0 a1 a2 M)) (hg_unit : ∀ (a0 a1 a2 : Int32) (M : xM), AM SC l yX3_unit cX3_unit 8 (some .boolean) dd ki [xr 4, xi a0, xi a1, xi a2] M (g_unit a0 a1 a2 M)) (x1 : Int32) (x2 : Int32) (x3 : Int32)    : ∀ (n : Nat) (x4 : Int32) (x5 : Int32) (x6 : Int32) (M : xM), AW SC l RX3 cX3_condition 9 (some .boolean) d ki (F_X3_condition_b15 fu g_condition g_unit x1 x2 x3 n x4 x5 x6 M) 15 [some (xr 4), some (xi x1), none, none, some (xi x4), some (xi x5), some (xi x6), none, none] [] M := by
  intro n
  induction n with
  | zero =>
    intro x4 x5 x6 M
    exact AW.none
  | succ n ih =>
    intro x4 x5 x6 M
    rw [F_X3_condition_b15]
    refine A_iload dX3_condition_15 rfl ?_
    refine A_aload_n dX3_condition_17 rfl ?_
    refine A_geti lf_X3_32 rfl rfl dX3_condition_18 ?_
    refine A_icmp_ge (tgt := 120) dX3_condition_21 (by decide) (fun _ => ?_) (fun _ => ?_)
    · exact (a_X3_condition_b120 (l := l) fu g_condition g_unit hd hD hg_condition hg_unit x1 x2 x3  _ _ _ ).sub ⟨rfl, rfl, trivial⟩
    · refine A_aload_n dX3_condition_24 rfl ?_
      refine A_callVi (a_X3_next (l := l) fu  _ ) lc_X3_50 rfl rfl (by omega) (Nat.le_of_ble_eq_true rfl) rfl dX3_condition_25 (fun q1 Mq1 hq1 => ?_)
      refine A_istore dX3_condition_28 (Nat.le_of_ble_eq_true rfl) rfl ?_
      refine A_iload dX3_condition_30 rfl ?_
      refine A_bipush (v := (38 : Int32)) dX3_condition_32 oB_38 ?_
      refine A_icmp_eq (tgt := 47) dX3_condition_34 (by decide) (fun _ => ?_) (fun _ => ?_)
      · exact (a_X3_condition_b47 (l := l) fu g_condition g_unit hd hD hg_condition hg_unit x1 x2 x3 ih _ _ _ _ _ ).sub ⟨rfl, rfl, rfl, rfl, rfl, rfl, trivial⟩
      · refine A_iload dX3_condition_37 rfl ?_
        refine A_bipush (v := (124 : Int32)) dX3_condition_39 oB_124 ?_
        refine A_icmp_eq (tgt := 47) dX3_condition_41 (by decide) (fun _ => ?_) (fun _ => ?_)
        · exact (a_X3_condition_b47 (l := l) fu g_condition g_unit hd hD hg_condition hg_unit x1 x2 x3 ih _ _ _ _ _ ).sub ⟨rfl, rfl, rfl, rfl, rfl, rfl, trivial⟩
        · refine A_goto (tgt := 120) dX3_condition_44 (by decide) ?_
          exact (a_X3_condition_b120 (l := l) fu g_condition g_unit hd hD hg_condition hg_unit x1 x2 x3  _ _ _ ).sub ⟨rfl, rfl, trivial⟩
def F_X3_condition (fu : Nat) (g_condition : Int32 → Int32 → Int32 → xM → Option (Int32 × xM)) (g_unit : Int32 → Int32 → Int32 → xM → Option (Int32 × xM)) (x1 : Int32) (x2 : Int32) (x3 : Int32)   (M : xM) : Option (Int32 × xM) :=
  (g_unit x1 x2 x3 M).bind fun q1 =>
  F_X3_condition_b15 fu g_condition g_unit x1 x2 x3 fu (0 : Int32) q1.1 (0 : Int32) q1.2
set_option maxRecDepth 100000 in
set_option maxHeartbeats 4000000 in
theorem w_X3_condition {l : Launch} (fu : Nat) {d dd : Nat} (g_condition : Int32 → Int32 → Int32 → xM → Option (Int32 × xM)) (g_unit : Int32 → Int32 → Int32 → xM → Option (Int32 × xM)) (hd : dd + 1 ≤ d) (hD : 34 ≤ d) (hg_condition : ∀ (a0 a1 a2 : Int32) (M : xM), AM SC l yX3_condition cX3_condition 9 (some .boolean) dd ki [xr 4, xi a0, xi a1, xi a2] M (g_condition a0 a1 a2 M)) (hg_unit : ∀ (a0 a1 a2 : Int32) (M : xM), AM SC l yX3_unit cX3_unit 8 (some .boolean) dd ki [xr 4, xi a0, xi a1, xi a2] M (g_unit a0 a1 a2 M)) (x1 : Int32) (x2 : Int32) (x3 : Int32)     (M : xM)  : AW SC l RX3 cX3_condition 9 (some .boolean) d ki (F_X3_condition fu g_condition g_unit x1 x2 x3  M) 0 [some (xr 4), some (xi x1), some (xi x2), some (xi x3), none, none, none, none, none] [] M := by
  unfold F_X3_condition
  refine A_iconst (v := (0 : Int32)) dX3_condition_0 oI_0 ?_
  refine A_istore dX3_condition_1 (Nat.le_of_ble_eq_true rfl) rfl ?_
  refine A_aload_n dX3_condition_3 rfl ?_
  refine A_iload_n dX3_condition_4 rfl ?_
  refine A_iload_n dX3_condition_5 rfl ?_
  refine A_iload_n dX3_condition_6 rfl ?_
  refine A_callVi (hg_unit _ _ _ _) lc_X3_69 rfl rfl hd (Nat.le_of_ble_eq_true rfl) rfl dX3_condition_7 (fun q1 Mq1 hq1 => ?_)
  refine A_istore dX3_condition_10 (Nat.le_of_ble_eq_true rfl) rfl ?_
  refine A_iconst (v := (0 : Int32)) dX3_condition_12 oI_0 ?_
  refine A_istore dX3_condition_13 (Nat.le_of_ble_eq_true rfl) rfl ?_
  exact (a_X3_condition_b15 (l := l) fu g_condition g_unit hd hD hg_condition hg_unit x1 x2 x3  fu _ _ _ _).sub ⟨rfl, rfl, rfl, rfl, rfl, trivial⟩
theorem a_X3_condition {l : Launch} (fu : Nat) {d dd : Nat} (g_condition : Int32 → Int32 → Int32 → xM → Option (Int32 × xM)) (g_unit : Int32 → Int32 → Int32 → xM → Option (Int32 × xM)) (hd : dd + 1 ≤ d) (hD : 34 ≤ d) (hg_condition : ∀ (a0 a1 a2 : Int32) (M : xM), AM SC l yX3_condition cX3_condition 9 (some .boolean) dd ki [xr 4, xi a0, xi a1, xi a2] M (g_condition a0 a1 a2 M)) (hg_unit : ∀ (a0 a1 a2 : Int32) (M : xM), AM SC l yX3_unit cX3_unit 8 (some .boolean) dd ki [xr 4, xi a0, xi a1, xi a2] M (g_unit a0 a1 a2 M))  (x1 : Int32) (x2 : Int32) (x3 : Int32) (M : xM)  : AM SC l yX3_condition cX3_condition 9 (some .boolean) d ki [xr 4, xi x1, xi x2, xi x3] M (F_X3_condition fu g_condition g_unit x1 x2 x3  M) :=
  AM.of (L0 := [some (xr 4), some (xi x1), some (xi x2), some (xi x3), none, none, none, none, none]) (w_X3_condition (l := l) fu g_condition g_unit hd hD hg_condition hg_unit x1 x2 x3  M ) (by decide +kernel) rfl (Nat.le_of_ble_eq_true rfl) ⟨rfl, rfl, rfl, rfl, trivial⟩
def F_X3_unit_b95 (fu : Nat) (g_condition : Int32 → Int32 → Int32 → xM → Option (Int32 × xM)) (g_unit : Int32 → Int32 → Int32 → xM → Option (Int32 × xM)) (x1 : Int32) (x2 : Int32) (x3 : Int32)  (s0 : Int32) (M : xM) : Option (Int32 × xM) :=
  (F_X3_next fu M).bind fun q1 =>
  (if (P_X3_isComparison q1.1 q1.2) = 0 then
  (F_X3_stop q1.2).bind fun q3 =>
  some ((0 : Int32), q3)
  else
  (T_X3_sum fu x1 (xset q1.2 4 4 ((q1.2 4 4) + (1 : Int32)))).bind fun q2 =>
  (if q1.1 = (61 : Int32) then
  (if s0 = q2.1 then
  some ((1 : Int32), q2.2)
  else
  some ((0 : Int32), q2.2))
  else
  (if q1.1 = (60 : Int32) then
  (if q2.1 ≤ s0 then
  some ((0 : Int32), q2.2)
  else
  some ((1 : Int32), q2.2))
  else
  (if s0 ≤ q2.1 then
  some ((0 : Int32), q2.2)
  else
  some ((1 : Int32), q2.2)))))
set_option maxRecDepth 100000 in
set_option maxHeartbeats 4000000 in
theorem a_X3_unit_b95 {l : Launch} (fu : Nat) {d dd : Nat} (g_condition : Int32 → Int32 → Int32 → xM → Option (Int32 × xM)) (g_unit : Int32 → Int32 → Int32 → xM → Option (Int32 × xM)) (hd : dd + 1 ≤ d) (hD : 34 ≤ d) (hg_condition : ∀ (a0 a1 a2 : Int32) (M : xM), AM SC l yX3_condition cX3_condition 9 (some .boolean) dd ki [xr 4, xi a0, xi a1, xi a2] M (g_condition a0 a1 a2 M)) (hg_unit : ∀ (a0 a1 a2 : Int32) (M : xM), AM SC l yX3_unit cX3_unit 8 (some .boolean) dd ki [xr 4, xi a0, xi a1, xi a2] M (g_unit a0 a1 a2 M)) (x1 : Int32) (x2 : Int32) (x3 : Int32)    (s0 : Int32) (M : xM)  : AW SC l RX3 cX3_unit 8 (some .boolean) d ki (F_X3_unit_b95 fu g_condition g_unit x1 x2 x3 s0 M) 95 [some (xr 4), some (xi x1), none, none, none, none, none, none] [xi s0] M := by
  unfold F_X3_unit_b95
  refine A_istore dX3_unit_95 (Nat.le_of_ble_eq_true rfl) rfl ?_
  refine A_aload_n dX3_unit_97 rfl ?_
  refine A_callVi (a_X3_next (l := l) fu  _ ) lc_X3_50 rfl rfl (by omega) (Nat.le_of_ble_eq_true rfl) rfl dX3_unit_98 (fun q1 Mq1 hq1 => ?_)
  refine A_istore dX3_unit_101 (Nat.le_of_ble_eq_true rfl) rfl ?_
  refine A_iload dX3_unit_103 rfl ?_
  refine A_callSp (a_X3_isComparison (l := l) _ _ ) lc_X3_58 rfl (by omega) (Nat.le_of_ble_eq_true rfl) rfl dX3_unit_105 ?_
  refine A_if_ne (tgt := 117) dX3_unit_108 (by decide) (fun _ => ?_) (fun _ => ?_)
  · refine A_aload_n dX3_unit_111 rfl ?_
    refine A_callVv (a_X3_stop (l := l)  _ ) lc_X3_66 rfl rfl (by omega) (Nat.le_of_ble_eq_true rfl) rfl dX3_unit_112 (fun q3 hq3 => ?_)
    refine A_iconst (v := (0 : Int32)) dX3_unit_115 oI_0 ?_
    exact A_zret' rfl (Or.inl rfl) dX3_unit_116
  · refine A_aload_n dX3_unit_117 rfl ?_
    refine A_dup dX3_unit_118 rfl ?_
    refine A_geti lf_X3_43 rfl rfl dX3_unit_119 ?_
    refine A_iconst (v := (1 : Int32)) dX3_unit_122 oI_1 ?_
    refine A_iadd dX3_unit_123 ?_
    refine A_puti lf_X3_43 rfl rfl dX3_unit_124 ?_
    refine A_aload_n dX3_unit_127 rfl ?_
    refine A_iload_n dX3_unit_128 rfl ?_
    refine A_callVi (t_X3_sum (l := l) fu _ _ ) lc_X3_54 rfl rfl (by omega) (Nat.le_of_ble_eq_true rfl) rfl dX3_unit_129 (fun q2 Mq2 hq2 => ?_)
    refine A_istore dX3_unit_132 (Nat.le_of_ble_eq_true rfl) rfl ?_
    refine A_iload dX3_unit_134 rfl ?_
    refine A_bipush (v := (61 : Int32)) dX3_unit_136 oB_61 ?_
    refine A_icmp_ne (tgt := 154) dX3_unit_138 (by decide) (fun _ => ?_) (fun _ => ?_)
    · refine A_iload dX3_unit_141 rfl ?_
      refine A_iload dX3_unit_143 rfl ?_
      refine A_icmp_ne (tgt := 152) dX3_unit_145 (by decide) (fun _ => ?_) (fun _ => ?_)
      · refine A_iconst (v := (1 : Int32)) dX3_unit_148 oI_1 ?_
        refine A_goto (tgt := 153) dX3_unit_149 (by decide) ?_
        exact A_zret' rfl (Or.inr rfl) dX3_unit_153
      · refine A_iconst (v := (0 : Int32)) dX3_unit_152 oI_0 ?_
        exact A_zret' rfl (Or.inl rfl) dX3_unit_153
    · refine A_iload dX3_unit_154 rfl ?_
      refine A_bipush (v := (60 : Int32)) dX3_unit_156 oB_60 ?_
      refine A_icmp_ne (tgt := 176) dX3_unit_158 (by decide) (fun _ => ?_) (fun _ => ?_)
      · refine A_iload dX3_unit_161 rfl ?_
        refine A_iload dX3_unit_163 rfl ?_
        refine A_icmp_ge (tgt := 172) dX3_unit_165 (by decide) (fun _ => ?_) (fun _ => ?_)
        · refine A_iconst (v := (0 : Int32)) dX3_unit_172 oI_0 ?_
          refine A_goto (tgt := 188) dX3_unit_173 (by decide) ?_
          exact A_zret' rfl (Or.inl rfl) dX3_unit_188
        · refine A_iconst (v := (1 : Int32)) dX3_unit_168 oI_1 ?_
          refine A_goto (tgt := 188) dX3_unit_169 (by decide) ?_
          exact A_zret' rfl (Or.inr rfl) dX3_unit_188
      · refine A_iload dX3_unit_176 rfl ?_
        refine A_iload dX3_unit_178 rfl ?_
        refine A_icmp_le (tgt := 187) dX3_unit_180 (by decide) (fun _ => ?_) (fun _ => ?_)
        · refine A_iconst (v := (0 : Int32)) dX3_unit_187 oI_0 ?_
          exact A_zret' rfl (Or.inl rfl) dX3_unit_188
        · refine A_iconst (v := (1 : Int32)) dX3_unit_183 oI_1 ?_
          refine A_goto (tgt := 188) dX3_unit_184 (by decide) ?_
          exact A_zret' rfl (Or.inr rfl) dX3_unit_188
def F_X3_unit_b82 (fu : Nat) (g_condition : Int32 → Int32 → Int32 → xM → Option (Int32 × xM)) (g_unit : Int32 → Int32 → Int32 → xM → Option (Int32 × xM)) (x1 : Int32) (x2 : Int32) (x3 : Int32)   (M : xM) : Option (Int32 × xM) :=
  (if x2 = 0 then
  (T_X3_sum fu x1 M).bind fun q1 =>
  F_X3_unit_b95 fu g_condition g_unit x1 x2 x3 q1.1 q1.2
  else
  F_X3_unit_b95 fu g_condition g_unit x1 x2 x3 x3 M)
set_option maxRecDepth 100000 in
set_option maxHeartbeats 4000000 in
theorem a_X3_unit_b82 {l : Launch} (fu : Nat) {d dd : Nat} (g_condition : Int32 → Int32 → Int32 → xM → Option (Int32 × xM)) (g_unit : Int32 → Int32 → Int32 → xM → Option (Int32 × xM)) (hd : dd + 1 ≤ d) (hD : 34 ≤ d) (hg_condition : ∀ (a0 a1 a2 : Int32) (M : xM), AM SC l yX3_condition cX3_condition 9 (some .boolean) dd ki [xr 4, xi a0, xi a1, xi a2] M (g_condition a0 a1 a2 M)) (hg_unit : ∀ (a0 a1 a2 : Int32) (M : xM), AM SC l yX3_unit cX3_unit 8 (some .boolean) dd ki [xr 4, xi a0, xi a1, xi a2] M (g_unit a0 a1 a2 M)) (x1 : Int32) (x2 : Int32) (x3 : Int32)     (M : xM)  : AW SC l RX3 cX3_unit 8 (some .boolean) d ki (F_X3_unit_b82 fu g_condition g_unit x1 x2 x3  M) 82 [some (xr 4), some (xi x1), some (xi x2), some (xi x3), none, none, none, none] [] M := by
  unfold F_X3_unit_b82
  refine A_iload_n dX3_unit_82 rfl ?_
  refine A_if_eq (tgt := 90) dX3_unit_83 (by decide) (fun _ => ?_) (fun _ => ?_)
  · refine A_aload_n dX3_unit_90 rfl ?_
    refine A_iload_n dX3_unit_91 rfl ?_
    refine A_callVi (t_X3_sum (l := l) fu _ _ ) lc_X3_54 rfl rfl (by omega) (Nat.le_of_ble_eq_true rfl) rfl dX3_unit_92 (fun q1 Mq1 hq1 => ?_)
    exact (a_X3_unit_b95 (l := l) fu g_condition g_unit hd hD hg_condition hg_unit x1 x2 x3  _ _ ).sub ⟨rfl, rfl, trivial⟩
  · refine A_iload_n dX3_unit_86 rfl ?_
    refine A_goto (tgt := 95) dX3_unit_87 (by decide) ?_
    exact (a_X3_unit_b95 (l := l) fu g_condition g_unit hd hD hg_condition hg_unit x1 x2 x3  _ _ ).sub ⟨rfl, rfl, trivial⟩
def F_X3_unit_b47 (fu : Nat) (g_condition : Int32 → Int32 → Int32 → xM → Option (Int32 × xM)) (g_unit : Int32 → Int32 → Int32 → xM → Option (Int32 × xM)) (x1 : Int32) (x2 : Int32) (x3 : Int32)  (x4 : Int32) (M : xM) : Option (Int32 × xM) :=
  (if x4 = (40 : Int32) then
  (F_X3_goesDeeper x1 M).bind fun q1 =>
  (if q1.1 = 0 then
  F_X3_unit_b82 fu g_condition g_unit x1 x2 x3  q1.2
  else
  (g_condition (x1 + (1 : Int32)) (0 : Int32) (0 : Int32) q1.2).bind fun q2 =>
  (F_X3_expect fu (41 : Int32) q2.2).bind fun q3 =>
  (if q2.1 = 0 ∨ q2.1 = 1 then some (q2.1, q3) else none))
  else
  F_X3_unit_b82 fu g_condition g_unit x1 x2 x3  M)
set_option maxRecDepth 100000 in
set_option maxHeartbeats 4000000 in
theorem a_X3_unit_b47 {l : Launch} (fu : Nat) {d dd : Nat} (g_condition : Int32 → Int32 → Int32 → xM → Option (Int32 × xM)) (g_unit : Int32 → Int32 → Int32 → xM → Option (Int32 × xM)) (hd : dd + 1 ≤ d) (hD : 34 ≤ d) (hg_condition : ∀ (a0 a1 a2 : Int32) (M : xM), AM SC l yX3_condition cX3_condition 9 (some .boolean) dd ki [xr 4, xi a0, xi a1, xi a2] M (g_condition a0 a1 a2 M)) (hg_unit : ∀ (a0 a1 a2 : Int32) (M : xM), AM SC l yX3_unit cX3_unit 8 (some .boolean) dd ki [xr 4, xi a0, xi a1, xi a2] M (g_unit a0 a1 a2 M)) (x1 : Int32) (x2 : Int32) (x3 : Int32)    (x4 : Int32) (M : xM)  : AW SC l RX3 cX3_unit 8 (some .boolean) d ki (F_X3_unit_b47 fu g_condition g_unit x1 x2 x3 x4 M) 47 [some (xr 4), some (xi x1), some (xi x2), some (xi x3), some (xi x4), none, none, none] [] M := by
  unfold F_X3_unit_b47
  refine A_iload dX3_unit_47 rfl ?_
  refine A_bipush (v := (40 : Int32)) dX3_unit_49 oB_40 ?_
  refine A_icmp_ne (tgt := 82) dX3_unit_51 (by decide) (fun _ => ?_) (fun _ => ?_)
  · refine A_aload_n dX3_unit_54 rfl ?_
    refine A_iload_n dX3_unit_55 rfl ?_
    refine A_callVi (a_X3_goesDeeper (l := l) _ _ ) lc_X3_72 rfl rfl (by omega) (Nat.le_of_ble_eq_true rfl) rfl dX3_unit_56 (fun q1 Mq1 hq1 => ?_)
    refine A_if_eq (tgt := 82) dX3_unit_59 (by decide) (fun _ => ?_) (fun _ => ?_)
    · exact (a_X3_unit_b82 (l := l) fu g_condition g_unit hd hD hg_condition hg_unit x1 x2 x3   _ ).sub ⟨rfl, rfl, rfl, rfl, trivial⟩
    · refine A_aload_n dX3_unit_62 rfl ?_
      refine A_iload_n dX3_unit_63 rfl ?_
      refine A_iconst (v := (1 : Int32)) dX3_unit_64 oI_1 ?_
      refine A_iadd dX3_unit_65 ?_
      refine A_iconst (v := (0 : Int32)) dX3_unit_66 oI_0 ?_
      refine A_iconst (v := (0 : Int32)) dX3_unit_67 oI_0 ?_
      refine A_callVi (hg_condition _ _ _ _) lc_X3_62 rfl rfl hd (Nat.le_of_ble_eq_true rfl) rfl dX3_unit_68 (fun q2 Mq2 hq2 => ?_)
      refine A_istore dX3_unit_71 (Nat.le_of_ble_eq_true rfl) rfl ?_
      refine A_aload_n dX3_unit_73 rfl ?_
      refine A_bipush (v := (41 : Int32)) dX3_unit_74 oB_41 ?_
      refine A_callVv (a_X3_expect (l := l) fu _ _ ) lc_X3_46 rfl rfl (by omega) (Nat.le_of_ble_eq_true rfl) rfl dX3_unit_76 (fun q3 hq3 => ?_)
      refine A_iload dX3_unit_79 rfl ?_
      exact A_zret rfl dX3_unit_81
  · exact (a_X3_unit_b82 (l := l) fu g_condition g_unit hd hD hg_condition hg_unit x1 x2 x3   _ ).sub ⟨rfl, rfl, rfl, rfl, trivial⟩
def F_X3_unit_b12 (fu : Nat) (g_condition : Int32 → Int32 → Int32 → xM → Option (Int32 × xM)) (g_unit : Int32 → Int32 → Int32 → xM → Option (Int32 × xM)) (x1 : Int32) (x2 : Int32) (x3 : Int32)  (s0 : Int32) (M : xM) : Option (Int32 × xM) :=
  (if s0 = (33 : Int32) then
  (F_X3_goesDeeper x1 M).bind fun q1 =>
  (if q1.1 = 0 then
  F_X3_unit_b47 fu g_condition g_unit x1 x2 x3 s0 q1.2
  else
  (g_unit (x1 + (1 : Int32)) (0 : Int32) (0 : Int32) q1.2).bind fun q2 =>
  (if q2.1 = 0 then
  some ((1 : Int32), q2.2)
  else
  some ((0 : Int32), q2.2)))
  else
  F_X3_unit_b47 fu g_condition g_unit x1 x2 x3 s0 M)
set_option maxRecDepth 100000 in
set_option maxHeartbeats 4000000 in
theorem a_X3_unit_b12 {l : Launch} (fu : Nat) {d dd : Nat} (g_condition : Int32 → Int32 → Int32 → xM → Option (Int32 × xM)) (g_unit : Int32 → Int32 → Int32 → xM → Option (Int32 × xM)) (hd : dd + 1 ≤ d) (hD : 34 ≤ d) (hg_condition : ∀ (a0 a1 a2 : Int32) (M : xM), AM SC l yX3_condition cX3_condition 9 (some .boolean) dd ki [xr 4, xi a0, xi a1, xi a2] M (g_condition a0 a1 a2 M)) (hg_unit : ∀ (a0 a1 a2 : Int32) (M : xM), AM SC l yX3_unit cX3_unit 8 (some .boolean) dd ki [xr 4, xi a0, xi a1, xi a2] M (g_unit a0 a1 a2 M)) (x1 : Int32) (x2 : Int32) (x3 : Int32)    (s0 : Int32) (M : xM)  : AW SC l RX3 cX3_unit 8 (some .boolean) d ki (F_X3_unit_b12 fu g_condition g_unit x1 x2 x3 s0 M) 12 [some (xr 4), some (xi x1), some (xi x2), some (xi x3), none, none, none, none] [xi s0] M := by
  unfold F_X3_unit_b12
  refine A_istore dX3_unit_12 (Nat.le_of_ble_eq_true rfl) rfl ?_
  refine A_iload dX3_unit_14 rfl ?_
  refine A_bipush (v := (33 : Int32)) dX3_unit_16 oB_33 ?_
  refine A_icmp_ne (tgt := 47) dX3_unit_18 (by decide) (fun _ => ?_) (fun _ => ?_)
  · refine A_aload_n dX3_unit_21 rfl ?_
    refine A_iload_n dX3_unit_22 rfl ?_
    refine A_callVi (a_X3_goesDeeper (l := l) _ _ ) lc_X3_72 rfl rfl (by omega) (Nat.le_of_ble_eq_true rfl) rfl dX3_unit_23 (fun q1 Mq1 hq1 => ?_)
    refine A_if_eq (tgt := 47) dX3_unit_26 (by decide) (fun _ => ?_) (fun _ => ?_)
    · exact (a_X3_unit_b47 (l := l) fu g_condition g_unit hd hD hg_condition hg_unit x1 x2 x3  _ _ ).sub ⟨rfl, rfl, rfl, rfl, rfl, trivial⟩
    · refine A_aload_n dX3_unit_29 rfl ?_
      refine A_iload_n dX3_unit_30 rfl ?_
      refine A_iconst (v := (1 : Int32)) dX3_unit_31 oI_1 ?_
      refine A_iadd dX3_unit_32 ?_
      refine A_iconst (v := (0 : Int32)) dX3_unit_33 oI_0 ?_
      refine A_iconst (v := (0 : Int32)) dX3_unit_34 oI_0 ?_
      refine A_callVi (hg_unit _ _ _ _) lc_X3_69 rfl rfl hd (Nat.le_of_ble_eq_true rfl) rfl dX3_unit_35 (fun q2 Mq2 hq2 => ?_)
      refine A_if_ne (tgt := 45) dX3_unit_38 (by decide) (fun _ => ?_) (fun _ => ?_)
      · refine A_iconst (v := (1 : Int32)) dX3_unit_41 oI_1 ?_
        refine A_goto (tgt := 46) dX3_unit_42 (by decide) ?_
        exact A_zret' rfl (Or.inr rfl) dX3_unit_46
      · refine A_iconst (v := (0 : Int32)) dX3_unit_45 oI_0 ?_
        exact A_zret' rfl (Or.inl rfl) dX3_unit_46
  · exact (a_X3_unit_b47 (l := l) fu g_condition g_unit hd hD hg_condition hg_unit x1 x2 x3  _ _ ).sub ⟨rfl, rfl, rfl, rfl, rfl, trivial⟩
def F_X3_unit (fu : Nat) (g_condition : Int32 → Int32 → Int32 → xM → Option (Int32 × xM)) (g_unit : Int32 → Int32 → Int32 → xM → Option (Int32 × xM)) (x1 : Int32) (x2 : Int32) (x3 : Int32)   (M : xM) : Option (Int32 × xM) :=
  (if x2 = 0 then
  (F_X3_next fu M).bind fun q1 =>
  F_X3_unit_b12 fu g_condition g_unit x1 x2 x3 q1.1 q1.2
  else
  F_X3_unit_b12 fu g_condition g_unit x1 x2 x3 (-1 : Int32) M)
set_option maxRecDepth 100000 in
set_option maxHeartbeats 4000000 in
theorem w_X3_unit {l : Launch} (fu : Nat) {d dd : Nat} (g_condition : Int32 → Int32 → Int32 → xM → Option (Int32 × xM)) (g_unit : Int32 → Int32 → Int32 → xM → Option (Int32 × xM)) (hd : dd + 1 ≤ d) (hD : 34 ≤ d) (hg_condition : ∀ (a0 a1 a2 : Int32) (M : xM), AM SC l yX3_condition cX3_condition 9 (some .boolean) dd ki [xr 4, xi a0, xi a1, xi a2] M (g_condition a0 a1 a2 M)) (hg_unit : ∀ (a0 a1 a2 : Int32) (M : xM), AM SC l yX3_unit cX3_unit 8 (some .boolean) dd ki [xr 4, xi a0, xi a1, xi a2] M (g_unit a0 a1 a2 M)) (x1 : Int32) (x2 : Int32) (x3 : Int32)     (M : xM)  : AW SC l RX3 cX3_unit 8 (some .boolean) d ki (F_X3_unit fu g_condition g_unit x1 x2 x3  M) 0 [some (xr 4), some (xi x1), some (xi x2), some (xi x3), none, none, none, none] [] M := by
  unfold F_X3_unit
  refine A_iload_n dX3_unit_0 rfl ?_
  refine A_if_eq (tgt := 8) dX3_unit_1 (by decide) (fun _ => ?_) (fun _ => ?_)
  · refine A_aload_n dX3_unit_8 rfl ?_
    refine A_callVi (a_X3_next (l := l) fu  _ ) lc_X3_50 rfl rfl (by omega) (Nat.le_of_ble_eq_true rfl) rfl dX3_unit_9 (fun q1 Mq1 hq1 => ?_)
    exact (a_X3_unit_b12 (l := l) fu g_condition g_unit hd hD hg_condition hg_unit x1 x2 x3  _ _ ).sub ⟨rfl, rfl, rfl, rfl, trivial⟩
  · refine A_iconst (v := (-1 : Int32)) dX3_unit_4 oI_m1 ?_
    refine A_goto (tgt := 12) dX3_unit_5 (by decide) ?_
    exact (a_X3_unit_b12 (l := l) fu g_condition g_unit hd hD hg_condition hg_unit x1 x2 x3  _ _ ).sub ⟨rfl, rfl, rfl, rfl, trivial⟩
theorem a_X3_unit {l : Launch} (fu : Nat) {d dd : Nat} (g_condition : Int32 → Int32 → Int32 → xM → Option (Int32 × xM)) (g_unit : Int32 → Int32 → Int32 → xM → Option (Int32 × xM)) (hd : dd + 1 ≤ d) (hD : 34 ≤ d) (hg_condition : ∀ (a0 a1 a2 : Int32) (M : xM), AM SC l yX3_condition cX3_condition 9 (some .boolean) dd ki [xr 4, xi a0, xi a1, xi a2] M (g_condition a0 a1 a2 M)) (hg_unit : ∀ (a0 a1 a2 : Int32) (M : xM), AM SC l yX3_unit cX3_unit 8 (some .boolean) dd ki [xr 4, xi a0, xi a1, xi a2] M (g_unit a0 a1 a2 M))  (x1 : Int32) (x2 : Int32) (x3 : Int32) (M : xM)  : AM SC l yX3_unit cX3_unit 8 (some .boolean) d ki [xr 4, xi x1, xi x2, xi x3] M (F_X3_unit fu g_condition g_unit x1 x2 x3  M) :=
  AM.of (L0 := [some (xr 4), some (xi x1), some (xi x2), some (xi x3), none, none, none, none]) (w_X3_unit (l := l) fu g_condition g_unit hd hD hg_condition hg_unit x1 x2 x3  M ) (by decide +kernel) rfl (Nat.le_of_ble_eq_true rfl) ⟨rfl, rfl, rfl, rfl, trivial⟩
def R_X3_condition_unit (fu : Nat) : Nat → (Int32 → Int32 → Int32 → xM → Option (Int32 × xM)) × (Int32 → Int32 → Int32 → xM → Option (Int32 × xM))
  | 0 => (fun _ _ _ _ => none, fun _ _ _ _ => none)
  | n + 1 => (fun a0 a1 a2 M => F_X3_condition fu (R_X3_condition_unit fu n).1 (R_X3_condition_unit fu n).2 a0 a1 a2 M, fun a0 a1 a2 M => F_X3_unit fu (R_X3_condition_unit fu n).1 (R_X3_condition_unit fu n).2 a0 a1 a2 M)
theorem R_X3_condition_unit_ok {l : Launch} (fu : Nat) : ∀ n : Nat, (∀ (a0 : Int32) (a1 : Int32) (a2 : Int32) (M : xM), AM SC l yX3_condition cX3_condition 9 (some .boolean) (34 + n) ki [xr 4, xi a0, xi a1, xi a2] M ((R_X3_condition_unit fu n).1 a0 a1 a2 M)) ∧ (∀ (a0 : Int32) (a1 : Int32) (a2 : Int32) (M : xM), AM SC l yX3_unit cX3_unit 8 (some .boolean) (34 + n) ki [xr 4, xi a0, xi a1, xi a2] M ((R_X3_condition_unit fu n).2 a0 a1 a2 M)) := by
  intro n
  induction n with
  | zero => exact ⟨fun _ _ _ _ q h => (by cases h), fun _ _ _ _ q h => (by cases h)⟩
  | succ n ih =>
    obtain ⟨h0, h1⟩ := ih
    exact ⟨fun a0 a1 a2 M => a_X3_condition (l := l) fu _ _ (by omega) (by omega) h0 h1 a0 a1 a2 M, fun a0 a1 a2 M => a_X3_unit (l := l) fu _ _ (by omega) (by omega) h0 h1 a0 a1 a2 M⟩
def T_X3_condition (fu : Nat) (a0 : Int32) (a1 : Int32) (a2 : Int32) (M : xM) : Option (Int32 × xM) := (R_X3_condition_unit fu 30).1 a0 a1 a2 M
theorem t_X3_condition {l : Launch} (fu : Nat) (a0 : Int32) (a1 : Int32) (a2 : Int32) (M : xM) : AM SC l yX3_condition cX3_condition 9 (some .boolean) 64 ki [xr 4, xi a0, xi a1, xi a2] M (T_X3_condition fu a0 a1 a2 M) := (R_X3_condition_unit_ok (l := l) fu 30).1 a0 a1 a2 M
def T_X3_unit (fu : Nat) (a0 : Int32) (a1 : Int32) (a2 : Int32) (M : xM) : Option (Int32 × xM) := (R_X3_condition_unit fu 30).2 a0 a1 a2 M
theorem t_X3_unit {l : Launch} (fu : Nat) (a0 : Int32) (a1 : Int32) (a2 : Int32) (M : xM) : AM SC l yX3_unit cX3_unit 8 (some .boolean) 64 ki [xr 4, xi a0, xi a1, xi a2] M (T_X3_unit fu a0 a1 a2 M) := (R_X3_condition_unit_ok (l := l) fu 30).2 a0 a1 a2 M
def F_X3_worth_b163 (fu : Nat)    (x2 : Int32) (M : xM) : Option (Int32 × xM) :=
  (if (M 4 3) ≤ (M 4 4) then
  some (x2, M)
  else
  (F_X3_stop M).bind fun q1 =>
  some (x2, q1))
set_option maxRecDepth 100000 in
set_option maxHeartbeats 4000000 in
theorem a_X3_worth_b163 {l : Launch} (fu : Nat)     (x2 : Int32) (M : xM)  : AW SC l RX3 cX3_worth 8 (some .int) 65 ki (F_X3_worth_b163 fu x2 M) 163 [some (xr 4), none, some (xi x2), none, none, none, none, none] [] M := by
  unfold F_X3_worth_b163
  refine A_aload_n dX3_worth_163 rfl ?_
  refine A_geti lf_X3_43 rfl rfl dX3_worth_164 ?_
  refine A_aload_n dX3_worth_167 rfl ?_
  refine A_geti lf_X3_32 rfl rfl dX3_worth_168 ?_
  refine A_icmp_ge (tgt := 178) dX3_worth_171 (by decide) (fun _ => ?_) (fun _ => ?_)
  · refine A_iload_n dX3_worth_178 rfl ?_
    exact A_iret rfl dX3_worth_179
  · refine A_aload_n dX3_worth_174 rfl ?_
    refine A_callVv (a_X3_stop (l := l)  _ ) lc_X3_66 rfl rfl (by decide) (Nat.le_of_ble_eq_true rfl) rfl dX3_worth_175 (fun q1 hq1 => ?_)
    refine A_iload_n dX3_worth_178 rfl ?_
    exact A_iret rfl dX3_worth_179
def F_X3_worth_b135 (fu : Nat)   (k16 : Int32 → Int32 → Int32 → xM → Option (Int32 × xM)) (x1 : Int32) (x2 : Int32) (x3 : Int32) (M : xM) : Option (Int32 × xM) :=
  (F_X3_next fu M).bind fun q1 =>
  (if q1.1 = (59 : Int32) then
  k16 x1 x2 (x3 + (1 : Int32)) (xset q1.2 4 4 ((q1.2 4 4) + (1 : Int32)))
  else
  F_X3_worth_b163 fu x2 q1.2)
set_option maxRecDepth 100000 in
set_option maxHeartbeats 4000000 in
theorem a_X3_worth_b135 {l : Launch} (fu : Nat)   {k16 : Int32 → Int32 → Int32 → xM → Option (Int32 × xM)} (hk16 : ∀ (b0 : Int32) (b1 : Int32) (b2 : Int32) (M : xM), AW SC l RX3 cX3_worth 8 (some .int) 65 ki (k16 b0 b1 b2 M) 16 [some (xr 4), some (xi b0), some (xi b1), some (xi b2), none, none, none, none] [] M) (x1 : Int32) (x2 : Int32) (x3 : Int32) (M : xM)  : AW SC l RX3 cX3_worth 8 (some .int) 65 ki (F_X3_worth_b135 fu k16 x1 x2 x3 M) 135 [some (xr 4), some (xi x1), some (xi x2), some (xi x3), none, none, none, none] [] M := by
  unfold F_X3_worth_b135
  refine A_aload_n dX3_worth_135 rfl ?_
  refine A_callVi (a_X3_next (l := l) fu  _ ) lc_X3_50 rfl rfl (by decide) (Nat.le_of_ble_eq_true rfl) rfl dX3_worth_136 (fun q1 Mq1 hq1 => ?_)
  refine A_bipush (v := (59 : Int32)) dX3_worth_139 oB_59 ?_
  refine A_icmp_eq (tgt := 147) dX3_worth_141 (by decide) (fun _ => ?_) (fun _ => ?_)
  · refine A_aload_n dX3_worth_147 rfl ?_
    refine A_dup dX3_worth_148 rfl ?_
    refine A_geti lf_X3_43 rfl rfl dX3_worth_149 ?_
    refine A_iconst (v := (1 : Int32)) dX3_worth_152 oI_1 ?_
    refine A_iadd dX3_worth_153 ?_
    refine A_puti lf_X3_43 rfl rfl dX3_worth_154 ?_
    refine A_iinc dX3_worth_157 rfl oI_1 (Nat.le_of_ble_eq_true rfl) rfl ?_
    refine A_goto (tgt := 16) dX3_worth_160 (by decide) ?_
    exact (hk16 _ _ _ _).sub ⟨rfl, rfl, rfl, rfl, trivial⟩
  · refine A_goto (tgt := 163) dX3_worth_144 (by decide) ?_
    exact (a_X3_worth_b163 (l := l) fu  _ _ ).sub ⟨rfl, rfl, trivial⟩
def F_X3_worth_b121 (fu : Nat)   (k16 : Int32 → Int32 → Int32 → xM → Option (Int32 × xM)) (x1 : Int32) (x2 : Int32) (x3 : Int32) (x6 : Int32) (x7 : Int32) (M : xM) : Option (Int32 × xM) :=
  (if x7 = 0 then
  F_X3_worth_b135 fu k16 x1 x2 x3 M
  else
  (if x1 = 0 then
  F_X3_worth_b135 fu k16 (1 : Int32) x6 x3 M
  else
  F_X3_worth_b135 fu k16 x1 x2 x3 M))
set_option maxRecDepth 100000 in
set_option maxHeartbeats 4000000 in
theorem a_X3_worth_b121 {l : Launch} (fu : Nat)   {k16 : Int32 → Int32 → Int32 → xM → Option (Int32 × xM)} (hk16 : ∀ (b0 : Int32) (b1 : Int32) (b2 : Int32) (M : xM), AW SC l RX3 cX3_worth 8 (some .int) 65 ki (k16 b0 b1 b2 M) 16 [some (xr 4), some (xi b0), some (xi b1), some (xi b2), none, none, none, none] [] M) (x1 : Int32) (x2 : Int32) (x3 : Int32) (x6 : Int32) (x7 : Int32) (M : xM)  : AW SC l RX3 cX3_worth 8 (some .int) 65 ki (F_X3_worth_b121 fu k16 x1 x2 x3 x6 x7 M) 121 [some (xr 4), some (xi x1), some (xi x2), some (xi x3), none, none, some (xi x6), some (xi x7)] [] M := by
  unfold F_X3_worth_b121
  refine A_iload dX3_worth_121 rfl ?_
  refine A_if_eq (tgt := 135) dX3_worth_123 (by decide) (fun _ => ?_) (fun _ => ?_)
  · exact (a_X3_worth_b135 (l := l) fu hk16 _ _ _ _ ).sub ⟨rfl, rfl, rfl, rfl, trivial⟩
  · refine A_iload_n dX3_worth_126 rfl ?_
    refine A_if_ne (tgt := 135) dX3_worth_127 (by decide) (fun _ => ?_) (fun _ => ?_)
    · refine A_iconst (v := (1 : Int32)) dX3_worth_130 oI_1 ?_
      refine A_istore_n dX3_worth_131 (Nat.le_of_ble_eq_true rfl) rfl ?_
      refine A_iload dX3_worth_132 rfl ?_
      refine A_istore_n dX3_worth_134 (Nat.le_of_ble_eq_true rfl) rfl ?_
      exact (a_X3_worth_b135 (l := l) fu hk16 _ _ _ _ ).sub ⟨rfl, rfl, rfl, rfl, trivial⟩
    · exact (a_X3_worth_b135 (l := l) fu hk16 _ _ _ _ ).sub ⟨rfl, rfl, rfl, rfl, trivial⟩
def F_X3_worth_b97 (fu : Nat)   (k16 : Int32 → Int32 → Int32 → xM → Option (Int32 × xM)) (x1 : Int32) (x2 : Int32) (x3 : Int32) (x5 : Int32) (x6 : Int32) (M : xM) : Option (Int32 × xM) :=
  (T_X3_condition fu (0 : Int32) x5 x6 M).bind fun q1 =>
  (F_X3_expect fu (63 : Int32) q1.2).bind fun q2 =>
  (T_X3_sum fu (0 : Int32) q2).bind fun q3 =>
  F_X3_worth_b121 fu k16 x1 x2 x3 q3.1 q1.1 q3.2
set_option maxRecDepth 100000 in
set_option maxHeartbeats 4000000 in
theorem a_X3_worth_b97 {l : Launch} (fu : Nat)   {k16 : Int32 → Int32 → Int32 → xM → Option (Int32 × xM)} (hk16 : ∀ (b0 : Int32) (b1 : Int32) (b2 : Int32) (M : xM), AW SC l RX3 cX3_worth 8 (some .int) 65 ki (k16 b0 b1 b2 M) 16 [some (xr 4), some (xi b0), some (xi b1), some (xi b2), none, none, none, none] [] M) (x1 : Int32) (x2 : Int32) (x3 : Int32) (x5 : Int32) (x6 : Int32) (M : xM)  : AW SC l RX3 cX3_worth 8 (some .int) 65 ki (F_X3_worth_b97 fu k16 x1 x2 x3 x5 x6 M) 97 [some (xr 4), some (xi x1), some (xi x2), some (xi x3), none, some (xi x5), some (xi x6), none] [] M := by
  unfold F_X3_worth_b97
  refine A_aload_n dX3_worth_97 rfl ?_
  refine A_iconst (v := (0 : Int32)) dX3_worth_98 oI_0 ?_
  refine A_iload dX3_worth_99 rfl ?_
  refine A_iload dX3_worth_101 rfl ?_
  refine A_callVi (t_X3_condition (l := l) fu _ _ _ _ ) lc_X3_62 rfl rfl (by decide) (Nat.le_of_ble_eq_true rfl) rfl dX3_worth_103 (fun q1 Mq1 hq1 => ?_)
  refine A_istore dX3_worth_106 (Nat.le_of_ble_eq_true rfl) rfl ?_
  refine A_aload_n dX3_worth_108 rfl ?_
  refine A_bipush (v := (63 : Int32)) dX3_worth_109 oB_63 ?_
  refine A_callVv (a_X3_expect (l := l) fu _ _ ) lc_X3_46 rfl rfl (by decide) (Nat.le_of_ble_eq_true rfl) rfl dX3_worth_111 (fun q2 hq2 => ?_)
  refine A_aload_n dX3_worth_114 rfl ?_
  refine A_iconst (v := (0 : Int32)) dX3_worth_115 oI_0 ?_
  refine A_callVi (t_X3_sum (l := l) fu _ _ ) lc_X3_54 rfl rfl (by decide) (Nat.le_of_ble_eq_true rfl) rfl dX3_worth_116 (fun q3 Mq3 hq3 => ?_)
  refine A_istore dX3_worth_119 (Nat.le_of_ble_eq_true rfl) rfl ?_
  exact (a_X3_worth_b121 (l := l) fu hk16 _ _ _ _ _ _ ).sub ⟨rfl, rfl, rfl, rfl, rfl, rfl, trivial⟩
def F_X3_worth_b77 (fu : Nat)   (k16 : Int32 → Int32 → Int32 → xM → Option (Int32 × xM)) (x1 : Int32) (x2 : Int32) (x3 : Int32) (x5 : Int32) (s0 : Int32) (M : xM) : Option (Int32 × xM) :=
  (if x5 = 0 then
  F_X3_worth_b97 fu k16 x1 x2 x3 x5 s0 M
  else
  (F_X3_next fu M).bind fun q1 =>
  (if (P_X3_isComparison q1.1 q1.2) = 0 then
  F_X3_worth_b121 fu k16 x1 x2 x3 s0 (1 : Int32) q1.2
  else
  F_X3_worth_b97 fu k16 x1 x2 x3 x5 s0 q1.2))
set_option maxRecDepth 100000 in
set_option maxHeartbeats 4000000 in
theorem a_X3_worth_b77 {l : Launch} (fu : Nat)   {k16 : Int32 → Int32 → Int32 → xM → Option (Int32 × xM)} (hk16 : ∀ (b0 : Int32) (b1 : Int32) (b2 : Int32) (M : xM), AW SC l RX3 cX3_worth 8 (some .int) 65 ki (k16 b0 b1 b2 M) 16 [some (xr 4), some (xi b0), some (xi b1), some (xi b2), none, none, none, none] [] M) (x1 : Int32) (x2 : Int32) (x3 : Int32) (x5 : Int32) (s0 : Int32) (M : xM)  : AW SC l RX3 cX3_worth 8 (some .int) 65 ki (F_X3_worth_b77 fu k16 x1 x2 x3 x5 s0 M) 77 [some (xr 4), some (xi x1), some (xi x2), some (xi x3), none, some (xi x5), none, none] [xi s0] M := by
  unfold F_X3_worth_b77
  refine A_istore dX3_worth_77 (Nat.le_of_ble_eq_true rfl) rfl ?_
  refine A_iconst (v := (1 : Int32)) dX3_worth_79 oI_1 ?_
  refine A_istore dX3_worth_80 (Nat.le_of_ble_eq_true rfl) rfl ?_
  refine A_iload dX3_worth_82 rfl ?_
  refine A_if_eq (tgt := 97) dX3_worth_84 (by decide) (fun _ => ?_) (fun _ => ?_)
  · exact (a_X3_worth_b97 (l := l) fu hk16 _ _ _ _ _ _ ).sub ⟨rfl, rfl, rfl, rfl, rfl, rfl, trivial⟩
  · refine A_aload_n dX3_worth_87 rfl ?_
    refine A_callVi (a_X3_next (l := l) fu  _ ) lc_X3_50 rfl rfl (by decide) (Nat.le_of_ble_eq_true rfl) rfl dX3_worth_88 (fun q1 Mq1 hq1 => ?_)
    refine A_callSp (a_X3_isComparison (l := l) _ _ ) lc_X3_58 rfl (by decide) (Nat.le_of_ble_eq_true rfl) rfl dX3_worth_91 ?_
    refine A_if_eq (tgt := 121) dX3_worth_94 (by decide) (fun _ => ?_) (fun _ => ?_)
    · exact (a_X3_worth_b121 (l := l) fu hk16 _ _ _ _ _ _ ).sub ⟨rfl, rfl, rfl, rfl, rfl, rfl, trivial⟩
    · exact (a_X3_worth_b97 (l := l) fu hk16 _ _ _ _ _ _ ).sub ⟨rfl, rfl, rfl, rfl, rfl, rfl, trivial⟩
def F_X3_worth_b61 (fu : Nat)   (k16 : Int32 → Int32 → Int32 → xM → Option (Int32 × xM)) (x1 : Int32) (x2 : Int32) (x3 : Int32) (s0 : Int32) (M : xM) : Option (Int32 × xM) :=
  (if s0 = 0 then
  F_X3_worth_b77 fu k16 x1 x2 x3 s0 (0 : Int32) M
  else
  (T_X3_sum fu (0 : Int32) M).bind fun q1 =>
  F_X3_worth_b77 fu k16 x1 x2 x3 s0 q1.1 q1.2)
set_option maxRecDepth 100000 in
set_option maxHeartbeats 4000000 in
theorem a_X3_worth_b61 {l : Launch} (fu : Nat)   {k16 : Int32 → Int32 → Int32 → xM → Option (Int32 × xM)} (hk16 : ∀ (b0 : Int32) (b1 : Int32) (b2 : Int32) (M : xM), AW SC l RX3 cX3_worth 8 (some .int) 65 ki (k16 b0 b1 b2 M) 16 [some (xr 4), some (xi b0), some (xi b1), some (xi b2), none, none, none, none] [] M) (x1 : Int32) (x2 : Int32) (x3 : Int32) (s0 : Int32) (M : xM)  : AW SC l RX3 cX3_worth 8 (some .int) 65 ki (F_X3_worth_b61 fu k16 x1 x2 x3 s0 M) 61 [some (xr 4), some (xi x1), some (xi x2), some (xi x3), none, none, none, none] [xi s0] M := by
  unfold F_X3_worth_b61
  refine A_istore dX3_worth_61 (Nat.le_of_ble_eq_true rfl) rfl ?_
  refine A_iload dX3_worth_63 rfl ?_
  refine A_if_eq (tgt := 76) dX3_worth_65 (by decide) (fun _ => ?_) (fun _ => ?_)
  · refine A_iconst (v := (0 : Int32)) dX3_worth_76 oI_0 ?_
    exact (a_X3_worth_b77 (l := l) fu hk16 _ _ _ _ _ _ ).sub ⟨rfl, rfl, rfl, rfl, rfl, trivial⟩
  · refine A_aload_n dX3_worth_68 rfl ?_
    refine A_iconst (v := (0 : Int32)) dX3_worth_69 oI_0 ?_
    refine A_callVi (t_X3_sum (l := l) fu _ _ ) lc_X3_54 rfl rfl (by decide) (Nat.le_of_ble_eq_true rfl) rfl dX3_worth_70 (fun q1 Mq1 hq1 => ?_)
    refine A_goto (tgt := 77) dX3_worth_73 (by decide) ?_
    exact (a_X3_worth_b77 (l := l) fu hk16 _ _ _ _ _ _ ).sub ⟨rfl, rfl, rfl, rfl, rfl, trivial⟩
def F_X3_worth_b60 (fu : Nat)   (k16 : Int32 → Int32 → Int32 → xM → Option (Int32 × xM)) (x1 : Int32) (x2 : Int32) (x3 : Int32) (M : xM) : Option (Int32 × xM) :=
  F_X3_worth_b61 fu k16 x1 x2 x3 (0 : Int32) M
set_option maxRecDepth 100000 in
set_option maxHeartbeats 4000000 in
theorem a_X3_worth_b60 {l : Launch} (fu : Nat)   {k16 : Int32 → Int32 → Int32 → xM → Option (Int32 × xM)} (hk16 : ∀ (b0 : Int32) (b1 : Int32) (b2 : Int32) (M : xM), AW SC l RX3 cX3_worth 8 (some .int) 65 ki (k16 b0 b1 b2 M) 16 [some (xr 4), some (xi b0), some (xi b1), some (xi b2), none, none, none, none] [] M) (x1 : Int32) (x2 : Int32) (x3 : Int32) (M : xM)  : AW SC l RX3 cX3_worth 8 (some .int) 65 ki (F_X3_worth_b60 fu k16 x1 x2 x3 M) 60 [some (xr 4), some (xi x1), some (xi x2), some (xi x3), none, none, none, none] [] M := by
  unfold F_X3_worth_b60
  refine A_iconst (v := (0 : Int32)) dX3_worth_60 oI_0 ?_
  exact (a_X3_worth_b61 (l := l) fu hk16 _ _ _ _ _ ).sub ⟨rfl, rfl, rfl, rfl, trivial⟩
def F_X3_worth_b16 (fu : Nat)    : Nat → Int32 → Int32 → Int32 → xM → Option (Int32 × xM)
  | 0, _, _, _, _ => none
  | n + 1, x1, x2, x3, M =>
    (if (M 4 3) < x3 then
    F_X3_worth_b163 fu x2 M
    else
    (F_X3_expect fu (121 : Int32) M).bind fun q1 =>
    (F_X3_expect fu (58 : Int32) q1).bind fun q2 =>
    (F_X3_next fu q2).bind fun q3 =>
    (if q3.1 = (33 : Int32) then
    F_X3_worth_b60 fu (F_X3_worth_b16 fu n) x1 x2 x3 q3.2
    else
    (if q3.1 = (40 : Int32) then
    F_X3_worth_b60 fu (F_X3_worth_b16 fu n) x1 x2 x3 q3.2
    else
    F_X3_worth_b61 fu (F_X3_worth_b16 fu n) x1 x2 x3 (1 : Int32) q3.2)))
set_option maxRecDepth 100000 in
set_option maxHeartbeats 4000000 in
theorem a_X3_worth_b16 {l : Launch} (fu : Nat)     : ∀ (n : Nat) (x1 : Int32) (x2 : Int32) (x3 : Int32) (M : xM), AW SC l RX3 cX3_worth 8 (some .int) 65 ki (F_X3_worth_b16 fu n x1 x2 x3 M) 16 [some (xr 4), some (xi x1), some (xi x2), some (xi x3), none, none, none, none] [] M := by
  intro n
  induction n with
  | zero =>
    intro x1 x2 x3 M
    exact AW.none
  | succ n ih =>
    intro x1 x2 x3 M
    rw [F_X3_worth_b16]
    refine A_iload_n dX3_worth_16 rfl ?_
    refine A_aload_n dX3_worth_17 rfl ?_
    refine A_geti lf_X3_32 rfl rfl dX3_worth_18 ?_
    refine A_icmp_gt (tgt := 163) dX3_worth_21 (by decide) (fun _ => ?_) (fun _ => ?_)
    · exact (a_X3_worth_b163 (l := l) fu  _ _ ).sub ⟨rfl, rfl, trivial⟩
    · refine A_aload_n dX3_worth_24 rfl ?_
      refine A_bipush (v := (121 : Int32)) dX3_worth_25 oB_121 ?_
      refine A_callVv (a_X3_expect (l := l) fu _ _ ) lc_X3_46 rfl rfl (by decide) (Nat.le_of_ble_eq_true rfl) rfl dX3_worth_27 (fun q1 hq1 => ?_)
      refine A_aload_n dX3_worth_30 rfl ?_
      refine A_bipush (v := (58 : Int32)) dX3_worth_31 oB_58 ?_
      refine A_callVv (a_X3_expect (l := l) fu _ _ ) lc_X3_46 rfl rfl (by decide) (Nat.le_of_ble_eq_true rfl) rfl dX3_worth_33 (fun q2 hq2 => ?_)
      refine A_aload_n dX3_worth_36 rfl ?_
      refine A_callVi (a_X3_next (l := l) fu  _ ) lc_X3_50 rfl rfl (by decide) (Nat.le_of_ble_eq_true rfl) rfl dX3_worth_37 (fun q3 Mq3 hq3 => ?_)
      refine A_istore dX3_worth_40 (Nat.le_of_ble_eq_true rfl) rfl ?_
      refine A_iload dX3_worth_42 rfl ?_
      refine A_bipush (v := (33 : Int32)) dX3_worth_44 oB_33 ?_
      refine A_icmp_eq (tgt := 60) dX3_worth_46 (by decide) (fun _ => ?_) (fun _ => ?_)
      · exact (a_X3_worth_b60 (l := l) fu ih _ _ _ _ ).sub ⟨rfl, rfl, rfl, rfl, trivial⟩
      · refine A_iload dX3_worth_49 rfl ?_
        refine A_bipush (v := (40 : Int32)) dX3_worth_51 oB_40 ?_
        refine A_icmp_eq (tgt := 60) dX3_worth_53 (by decide) (fun _ => ?_) (fun _ => ?_)
        · exact (a_X3_worth_b60 (l := l) fu ih _ _ _ _ ).sub ⟨rfl, rfl, rfl, rfl, trivial⟩
        · refine A_iconst (v := (1 : Int32)) dX3_worth_56 oI_1 ?_
          refine A_goto (tgt := 61) dX3_worth_57 (by decide) ?_
          exact (a_X3_worth_b61 (l := l) fu ih _ _ _ _ _ ).sub ⟨rfl, rfl, rfl, rfl, trivial⟩
def F_X3_worth (fu : Nat)     (M : xM) : Option (Int32 × xM) :=
  F_X3_worth_b16 fu fu (0 : Int32) (0 : Int32) (0 : Int32) (xset (xset M 4 4 (0 : Int32)) 4 0 (-1 : Int32))
set_option maxRecDepth 100000 in
set_option maxHeartbeats 4000000 in
theorem w_X3_worth {l : Launch} (fu : Nat)      (M : xM)  : AW SC l RX3 cX3_worth 8 (some .int) 65 ki (F_X3_worth fu  M) 0 [some (xr 4), none, none, none, none, none, none, none] [] M := by
  unfold F_X3_worth
  refine A_aload_n dX3_worth_0 rfl ?_
  refine A_iconst (v := (0 : Int32)) dX3_worth_1 oI_0 ?_
  refine A_puti lf_X3_43 rfl rfl dX3_worth_2 ?_
  refine A_aload_n dX3_worth_5 rfl ?_
  refine A_iconst (v := (-1 : Int32)) dX3_worth_6 oI_m1 ?_
  refine A_puti lf_X3_9 rfl rfl dX3_worth_7 ?_
  refine A_iconst (v := (0 : Int32)) dX3_worth_10 oI_0 ?_
  refine A_istore_n dX3_worth_11 (Nat.le_of_ble_eq_true rfl) rfl ?_
  refine A_iconst (v := (0 : Int32)) dX3_worth_12 oI_0 ?_
  refine A_istore_n dX3_worth_13 (Nat.le_of_ble_eq_true rfl) rfl ?_
  refine A_iconst (v := (0 : Int32)) dX3_worth_14 oI_0 ?_
  refine A_istore_n dX3_worth_15 (Nat.le_of_ble_eq_true rfl) rfl ?_
  exact (a_X3_worth_b16 (l := l) fu  fu _ _ _ _).sub ⟨rfl, rfl, rfl, rfl, trivial⟩
theorem a_X3_worth {l : Launch} (fu : Nat)   (M : xM)  : AM SC l yX3_worth cX3_worth 8 (some .int) 65 ki [xr 4] M (F_X3_worth fu   M) :=
  AM.of (L0 := [some (xr 4), none, none, none, none, none, none, none]) (w_X3_worth (l := l) fu  M ) (by decide +kernel) rfl (Nat.le_of_ble_eq_true rfl) ⟨rfl, trivial⟩
