theorem oS_999 : (Int16.ofInt (999)).toInt32 = (999 : Int32) := by decide +kernel
theorem lf_X4_17 : xfl RX4 17 3 2 (tyX4 2) true := ⟨_, _, _, _, xc_X4, by decide, rfl, rfl, rfl, lw_gm 252 (by decide +kernel) rfl⟩
theorem lf_X4_21 : xfl RX4 21 3 3 (tyX4 3) true := ⟨_, _, _, _, xc_X4, by decide, rfl, rfl, rfl, lw_gm 253 (by decide +kernel) rfl⟩
theorem lf_X4_27 : xfl RX4 27 3 4 (tyX4 4) true := ⟨_, _, _, _, xc_X4, by decide, rfl, rfl, rfl, lw_gm 254 (by decide +kernel) rfl⟩
theorem lf_X4_31 : xfl RX4 31 3 0 (tyX4 0) false := ⟨_, _, _, _, xc_X4, by decide, rfl, rfl, rfl, lw_gm 248 (by decide +kernel) rfl⟩
theorem lf_X4_40 : xfl RX4 40 8 0 (tyX9 0) true := ⟨_, _, _, _, xc_X9, by decide, rfl, rfl, rfl, lw_gm 208 (by decide +kernel) rfl⟩
theorem lf_X4_43 : xfl RX4 43 8 1 (tyX9 1) false := ⟨_, _, _, _, xc_X9, by decide, rfl, rfl, rfl, lw_gm 210 (by decide +kernel) rfl⟩
theorem lf_X4_54 : xfl RX4 54 2 0 (tyX3 0) false := ⟨_, _, _, _, xc_X3, by decide, rfl, rfl, rfl, lw_gm 232 (by decide +kernel) rfl⟩
theorem lc_X4_34 : xlS RX4 34 yX1_within cX1_within 3 (some .boolean) 3 := ⟨⟨lw_gm 742 (by decide +kernel) rfl, lw_gm 106 (by decide +kernel) rfl, lw_gm 518 (by decide +kernel) rfl, ⟨by decide, by decide, by decide +kernel⟩, by decide⟩, lw_gm 517 (by decide +kernel) rfl⟩
theorem lc_X4_46 : xlV RX4 46 yX3_layText cX3_layText 5 none 3 2 := ⟨⟨lw_gm 652 (by decide +kernel) rfl, lw_gm 110 (by decide +kernel) rfl, lw_gm 655 (by decide +kernel) rfl, ⟨by decide, by decide, by decide +kernel⟩, by decide⟩, lw_gm 653 (by decide +kernel) rfl, lw_gm 654 (by decide +kernel) rfl, _, _, rfl⟩
theorem lc_X4_50 : xlV RX4 50 yX3_worth cX3_worth 8 (some .int) 0 2 := ⟨⟨lw_gm 659 (by decide +kernel) rfl, lw_gm 110 (by decide +kernel) rfl, lw_gm 662 (by decide +kernel) rfl, ⟨by decide, by decide, by decide +kernel⟩, by decide⟩, lw_gm 660 (by decide +kernel) rfl, lw_gm 661 (by decide +kernel) rfl, _, _, rfl⟩
theorem lc_X4_57 : xlV RX4 57 yX4_faultIn cX4_faultIn 2 (some .int) 1 3 := ⟨⟨lw_gm 727 (by decide +kernel) rfl, lw_gm 109 (by decide +kernel) rfl, lw_gm 651 (by decide +kernel) rfl, ⟨by decide, by decide, by decide +kernel⟩, by decide⟩, lw_gm 649 (by decide +kernel) rfl, lw_gm 650 (by decide +kernel) rfl, _, _, rfl⟩
theorem lc_X4_61 : xlV RX4 61 yX9_copyTo cX9_copyTo 4 none 2 8 := ⟨⟨lw_gm 728 (by decide +kernel) rfl, lw_gm 108 (by decide +kernel) rfl, lw_gm 731 (by decide +kernel) rfl, ⟨by decide, by decide, by decide +kernel⟩, by decide⟩, lw_gm 729 (by decide +kernel) rfl, lw_gm 730 (by decide +kernel) rfl, _, _, rfl⟩
theorem lc_X4_65 : xlS RX4 65 yX1_put cX1_put 3 none 3 := ⟨⟨lw_gm 733 (by decide +kernel) rfl, lw_gm 106 (by decide +kernel) rfl, lw_gm 527 (by decide +kernel) rfl, ⟨by decide, by decide, by decide +kernel⟩, by decide⟩, lw_gm 526 (by decide +kernel) rfl⟩
theorem lc_X4_68 : xlV RX4 68 yX4_isLaw cX4_isLaw 2 (some .boolean) 1 3 := ⟨⟨lw_gm 756 (by decide +kernel) rfl, lw_gm 109 (by decide +kernel) rfl, lw_gm 741 (by decide +kernel) rfl, ⟨by decide, by decide, by decide +kernel⟩, by decide⟩, lw_gm 739 (by decide +kernel) rfl, lw_gm 740 (by decide +kernel) rfl, _, _, rfl⟩
theorem lc_X4_72 : xlS RX4 72 yX1_at cX1_at 2 (some .int) 2 := ⟨⟨lw_gm 757 (by decide +kernel) rfl, lw_gm 106 (by decide +kernel) rfl, lw_gm 560 (by decide +kernel) rfl, ⟨by decide, by decide, by decide +kernel⟩, by decide⟩, lw_gm 559 (by decide +kernel) rfl⟩
theorem lc_X4_76 : xlV RX4 76 yX3_layBooks cX3_layBooks 4 none 2 2 := ⟨⟨lw_gm 758 (by decide +kernel) rfl, lw_gm 110 (by decide +kernel) rfl, lw_gm 761 (by decide +kernel) rfl, ⟨by decide, by decide, by decide +kernel⟩, by decide⟩, lw_gm 759 (by decide +kernel) rfl, lw_gm 760 (by decide +kernel) rfl, _, _, rfl⟩
theorem lc_X4_79 : xlS RX4 79 yX1_nearest cX1_nearest 3 (some .int) 3 := ⟨⟨lw_gm 762 (by decide +kernel) rfl, lw_gm 106 (by decide +kernel) rfl, lw_gm 139 (by decide +kernel) rfl, ⟨by decide, by decide, by decide +kernel⟩, by decide⟩, lw_gm 138 (by decide +kernel) rfl⟩
theorem lc_X4_83 : xlV RX4 83 yX4_votersBy cX4_votersBy 4 (some .int) 3 3 := ⟨⟨lw_gm 789 (by decide +kernel) rfl, lw_gm 109 (by decide +kernel) rfl, lw_gm 755 (by decide +kernel) rfl, ⟨by decide, by decide, by decide +kernel⟩, by decide⟩, lw_gm 753 (by decide +kernel) rfl, lw_gm 754 (by decide +kernel) rfl, _, _, rfl⟩
theorem lc_X4_89 : xlS RX4 89 yX1_bit cX1_bit 1 (some .int) 1 := ⟨⟨lw_gm 790 (by decide +kernel) rfl, lw_gm 106 (by decide +kernel) rfl, lw_gm 515 (by decide +kernel) rfl, ⟨by decide, by decide, by decide +kernel⟩, by decide⟩, lw_gm 514 (by decide +kernel) rfl⟩
def P_X4_isLaw  (x1 : Int32)   (M : xM) : Int32 :=
  (P_X1_within x1 (0 : Int32) ((M 3 0) - (1 : Int32)) M)
set_option maxRecDepth 100000 in
set_option maxHeartbeats 4000000 in
theorem w_X4_isLaw {l : Launch} (x1 : Int32)     (M : xM)  : AW SC l RX4 cX4_isLaw 2 (some .boolean) 1 ki (some (P_X4_isLaw x1  M, M)) 0 [some (xr 3), some (xi x1)] [] M := by
  unfold P_X4_isLaw
  refine A_iload_n dX4_isLaw_0 rfl ?_
  refine A_iconst (v := (0 : Int32)) dX4_isLaw_1 oI_0 ?_
  refine A_aload_n dX4_isLaw_2 rfl ?_
  refine A_geti lf_X4_31 rfl rfl dX4_isLaw_3 ?_
  refine A_iconst (v := (1 : Int32)) dX4_isLaw_6 oI_1 ?_
  refine A_isub dX4_isLaw_7 ?_
  refine A_callSp (a_X1_within (S := SC) (l := l) _ _ _ _ ) lc_X4_34 rfl (by decide) (Nat.le_of_ble_eq_true rfl) rfl dX4_isLaw_8 ?_
  exact A_zret' rfl (zP_X1_within _ _ _ _) dX4_isLaw_11
theorem a_X4_isLaw {l : Launch}  (x1 : Int32) (M : xM)  : AM SC l yX4_isLaw cX4_isLaw 2 (some .boolean) 1 ki [xr 3, xi x1] M (some (P_X4_isLaw  x1  M, M)) :=
  AM.of (L0 := [some (xr 3), some (xi x1)]) (w_X4_isLaw (l := l) x1  M ) (by decide +kernel) rfl (Nat.le_of_ble_eq_true rfl) ⟨rfl, rfl, trivial⟩
theorem zP_X4_isLaw (x1 : Int32) (M : xM) : P_X4_isLaw x1 M = 0 ∨ P_X4_isLaw x1 M = 1 := by
  unfold P_X4_isLaw
  repeat' split
  all_goals first | decide | with_reducible exact zP_X1_within _ _ _ _
def F_X4_faultIn (fu : Nat)     (M : xM) : Option (Int32 × xM) :=
  (F_X3_layText fu 17 120 (0 : Int32) (M 2 1) M).bind fun q1 =>
  (F_X3_worth fu q1).bind fun q2 =>
  some ((q2.2 4 0), q2.2)
set_option maxRecDepth 100000 in
set_option maxHeartbeats 4000000 in
theorem w_X4_faultIn {l : Launch} (fu : Nat)      (M : xM)  : AW SC l RX4 cX4_faultIn 2 (some .int) 66 ki (F_X4_faultIn fu  M) 0 [some (xr 3), some (xr 2)] [] M := by
  unfold F_X4_faultIn
  refine A_aload_n dX4_faultIn_0 rfl ?_
  refine A_getr lf_X4_27 rfl rfl dX4_faultIn_1 ?_
  refine A_aload_n dX4_faultIn_4 rfl ?_
  refine A_getr lf_X4_40 rfl rfl dX4_faultIn_5 ?_
  refine A_iconst (v := (0 : Int32)) dX4_faultIn_8 oI_0 ?_
  refine A_aload_n dX4_faultIn_9 rfl ?_
  refine A_geti lf_X4_43 rfl rfl dX4_faultIn_10 ?_
  refine A_callVv (a_X3_layText (l := l) fu _ _ _ _ _ rfl) lc_X4_46 rfl rfl (by decide) (Nat.le_of_ble_eq_true rfl) rfl dX4_faultIn_13 (fun q1 hq1 => ?_)
  refine A_aload_n dX4_faultIn_16 rfl ?_
  refine A_getr lf_X4_27 rfl rfl dX4_faultIn_17 ?_
  refine A_callVi (a_X3_worth (l := l) fu  _ ) lc_X4_50 rfl rfl (by decide) (Nat.le_of_ble_eq_true rfl) rfl dX4_faultIn_20 (fun q2 Mq2 hq2 => ?_)
  refine A_pop dX4_faultIn_23 rfl ?_
  refine A_aload_n dX4_faultIn_24 rfl ?_
  refine A_getr lf_X4_27 rfl rfl dX4_faultIn_25 ?_
  refine A_geti lf_X4_54 rfl rfl dX4_faultIn_28 ?_
  exact A_iret rfl dX4_faultIn_31
theorem a_X4_faultIn {l : Launch} (fu : Nat)   (M : xM)  : AM SC l yX4_faultIn cX4_faultIn 2 (some .int) 66 ki [xr 3, xr 2] M (F_X4_faultIn fu   M) :=
  AM.of (L0 := [some (xr 3), some (xr 2)]) (w_X4_faultIn (l := l) fu  M ) (by decide +kernel) rfl (Nat.le_of_ble_eq_true rfl) ⟨rfl, rfl, trivial⟩
def F_X4_add (fu : Nat)     (M : xM) : Option (Int32 × xM) :=
  (if (4 : Int32) ≤ (M 3 0) then
  some ((-1 : Int32), M)
  else
  (F_X4_faultIn fu M).bind fun q1 =>
  (if q1.1 = (-1 : Int32) then
  (F_X9_copyTo fu 18 480 ((q1.2 3 0) * (120 : Int32)) q1.2).bind fun q2 =>
  (F_X1_put 19 4 (q2 3 0) (q2 2 1) q2).bind fun q3 =>
  some (((xset q3 2 1 (0 : Int32)) 3 0), (xset (xset q3 2 1 (0 : Int32)) 3 0 (((xset q3 2 1 (0 : Int32)) 3 0) + (1 : Int32))))
  else
  some ((-1 : Int32), q1.2)))
set_option maxRecDepth 100000 in
set_option maxHeartbeats 4000000 in
theorem w_X4_add {l : Launch} (fu : Nat)      (M : xM)  : AW SC l RX4 cX4_add 2 (some .int) 67 ki (F_X4_add fu  M) 0 [some (xr 3), some (xr 2)] [] M := by
  unfold F_X4_add
  refine A_aload_n dX4_add_0 rfl ?_
  refine A_geti lf_X4_31 rfl rfl dX4_add_1 ?_
  refine A_iconst (v := (4 : Int32)) dX4_add_4 oI_4 ?_
  refine A_icmp_ge (tgt := 17) dX4_add_5 (by decide) (fun _ => ?_) (fun _ => ?_)
  · refine A_iconst (v := (-1 : Int32)) dX4_add_17 oI_m1 ?_
    exact A_iret rfl dX4_add_18
  · refine A_aload_n dX4_add_8 rfl ?_
    refine A_aload_n dX4_add_9 rfl ?_
    refine A_callVi (a_X4_faultIn (l := l) fu  _ ) lc_X4_57 rfl rfl (by decide) (Nat.le_of_ble_eq_true rfl) rfl dX4_add_10 (fun q1 Mq1 hq1 => ?_)
    refine A_iconst (v := (-1 : Int32)) dX4_add_13 oI_m1 ?_
    refine A_icmp_eq (tgt := 19) dX4_add_14 (by decide) (fun _ => ?_) (fun _ => ?_)
    · refine A_aload_n dX4_add_19 rfl ?_
      refine A_aload_n dX4_add_20 rfl ?_
      refine A_getr lf_X4_17 rfl rfl dX4_add_21 ?_
      refine A_aload_n dX4_add_24 rfl ?_
      refine A_geti lf_X4_31 rfl rfl dX4_add_25 ?_
      refine A_bipush (v := (120 : Int32)) dX4_add_28 oB_120 ?_
      refine A_imul dX4_add_30 ?_
      refine A_callVv (a_X9_copyTo (l := l) fu _ _ _ _ rfl) lc_X4_61 rfl rfl (by decide) (Nat.le_of_ble_eq_true rfl) rfl dX4_add_31 (fun q2 hq2 => ?_)
      refine A_aload_n dX4_add_34 rfl ?_
      refine A_getr lf_X4_21 rfl rfl dX4_add_35 ?_
      refine A_aload_n dX4_add_38 rfl ?_
      refine A_geti lf_X4_31 rfl rfl dX4_add_39 ?_
      refine A_aload_n dX4_add_42 rfl ?_
      refine A_geti lf_X4_43 rfl rfl dX4_add_43 ?_
      refine A_callSv (a_X1_put (S := SC) (l := l) _ _ _ _ _ rfl) lc_X4_65 rfl (by decide) (Nat.le_of_ble_eq_true rfl) rfl dX4_add_46 (fun q3 hq3 => ?_)
      refine A_aload_n dX4_add_49 rfl ?_
      refine A_iconst (v := (0 : Int32)) dX4_add_50 oI_0 ?_
      refine A_puti lf_X4_43 rfl rfl dX4_add_51 ?_
      refine A_aload_n dX4_add_54 rfl ?_
      refine A_dup dX4_add_55 rfl ?_
      refine A_geti lf_X4_31 rfl rfl dX4_add_56 ?_
      refine A_dup_x1 dX4_add_59 rfl rfl ?_
      refine A_iconst (v := (1 : Int32)) dX4_add_60 oI_1 ?_
      refine A_iadd dX4_add_61 ?_
      refine A_puti lf_X4_31 rfl rfl dX4_add_62 ?_
      exact A_iret rfl dX4_add_65
    · refine A_iconst (v := (-1 : Int32)) dX4_add_17 oI_m1 ?_
      exact A_iret rfl dX4_add_18
theorem a_X4_add {l : Launch} (fu : Nat)   (M : xM)  : AM SC l yX4_add cX4_add 2 (some .int) 67 ki [xr 3, xr 2] M (F_X4_add fu   M) :=
  AM.of (L0 := [some (xr 3), some (xr 2)]) (w_X4_add (l := l) fu  M ) (by decide +kernel) rfl (Nat.le_of_ble_eq_true rfl) ⟨rfl, rfl, trivial⟩
def F_X4_votersBy (fu : Nat)  (x1 : Int32) (r2 n2 : Nat) (x3 : Int32)   (M : xM) : Option (Int32 × xM) :=
  (if (P_X4_isLaw x1 M) = 0 then
  some ((P_X1_at r2 n2 x3 M), M)
  else
  (F_X3_layText fu 18 480 (x1 * (120 : Int32)) (P_X1_at 19 4 x1 M) M).bind fun q1 =>
  (F_X3_layBooks fu r2 n2 x3 q1).bind fun q2 =>
  (F_X3_worth fu q2).bind fun q3 =>
  some ((P_X1_nearest q3.1 (0 : Int32) (999 : Int32) q3.2), q3.2))
set_option maxRecDepth 100000 in
set_option maxHeartbeats 4000000 in
theorem w_X4_votersBy {l : Launch} (fu : Nat) (x1 : Int32) (r2 n2 : Nat) (x3 : Int32) (h2 : SC[r2]? = some (.inl (0, n2)))    (M : xM)  : AW SC l RX4 cX4_votersBy 4 (some .int) 66 ki (F_X4_votersBy fu x1 r2 n2 x3  M) 0 [some (xr 3), some (xi x1), some (xr r2), some (xi x3)] [] M := by
  unfold F_X4_votersBy
  refine A_aload_n dX4_votersBy_0 rfl ?_
  refine A_iload_n dX4_votersBy_1 rfl ?_
  refine A_callVp (a_X4_isLaw (l := l) _ _ ) lc_X4_68 rfl rfl (by decide) (Nat.le_of_ble_eq_true rfl) rfl dX4_votersBy_2 ?_
  refine A_if_ne (tgt := 14) dX4_votersBy_5 (by decide) (fun _ => ?_) (fun _ => ?_)
  · refine A_aload_n dX4_votersBy_8 rfl ?_
    refine A_iload_n dX4_votersBy_9 rfl ?_
    refine A_callSp (a_X1_at (S := SC) (l := l) _ _ _ _ h2) lc_X4_72 rfl (by decide) (Nat.le_of_ble_eq_true rfl) rfl dX4_votersBy_10 ?_
    exact A_iret rfl dX4_votersBy_13
  · refine A_aload_n dX4_votersBy_14 rfl ?_
    refine A_getr lf_X4_27 rfl rfl dX4_votersBy_15 ?_
    refine A_aload_n dX4_votersBy_18 rfl ?_
    refine A_getr lf_X4_17 rfl rfl dX4_votersBy_19 ?_
    refine A_iload_n dX4_votersBy_22 rfl ?_
    refine A_bipush (v := (120 : Int32)) dX4_votersBy_23 oB_120 ?_
    refine A_imul dX4_votersBy_25 ?_
    refine A_aload_n dX4_votersBy_26 rfl ?_
    refine A_getr lf_X4_21 rfl rfl dX4_votersBy_27 ?_
    refine A_iload_n dX4_votersBy_30 rfl ?_
    refine A_callSp (a_X1_at (S := SC) (l := l) _ _ _ _ rfl) lc_X4_72 rfl (by decide) (Nat.le_of_ble_eq_true rfl) rfl dX4_votersBy_31 ?_
    refine A_callVv (a_X3_layText (l := l) fu _ _ _ _ _ rfl) lc_X4_46 rfl rfl (by decide) (Nat.le_of_ble_eq_true rfl) rfl dX4_votersBy_34 (fun q1 hq1 => ?_)
    refine A_aload_n dX4_votersBy_37 rfl ?_
    refine A_getr lf_X4_27 rfl rfl dX4_votersBy_38 ?_
    refine A_aload_n dX4_votersBy_41 rfl ?_
    refine A_iload_n dX4_votersBy_42 rfl ?_
    refine A_callVv (a_X3_layBooks (l := l) fu _ _ _ _ h2) lc_X4_76 rfl rfl (by decide) (Nat.le_of_ble_eq_true rfl) rfl dX4_votersBy_43 (fun q2 hq2 => ?_)
    refine A_aload_n dX4_votersBy_46 rfl ?_
    refine A_getr lf_X4_27 rfl rfl dX4_votersBy_47 ?_
    refine A_callVi (a_X3_worth (l := l) fu  _ ) lc_X4_50 rfl rfl (by decide) (Nat.le_of_ble_eq_true rfl) rfl dX4_votersBy_50 (fun q3 Mq3 hq3 => ?_)
    refine A_iconst (v := (0 : Int32)) dX4_votersBy_53 oI_0 ?_
    refine A_sipush (v := (999 : Int32)) dX4_votersBy_54 oS_999 ?_
    refine A_callSp (a_X1_nearest (S := SC) (l := l) _ _ _ _ ) lc_X4_79 rfl (by decide) (Nat.le_of_ble_eq_true rfl) rfl dX4_votersBy_57 ?_
    exact A_iret rfl dX4_votersBy_60
theorem a_X4_votersBy {l : Launch} (fu : Nat)  (x1 : Int32) (r2 n2 : Nat) (x3 : Int32) (M : xM) (h2 : SC[r2]? = some (.inl (0, n2))) : AM SC l yX4_votersBy cX4_votersBy 4 (some .int) 66 ki [xr 3, xi x1, xr r2, xi x3] M (F_X4_votersBy fu x1 r2 n2 x3  M) :=
  AM.of (L0 := [some (xr 3), some (xi x1), some (xr r2), some (xi x3)]) (w_X4_votersBy (l := l) fu x1 r2 n2 x3 h2  M ) (by decide +kernel) rfl (Nat.le_of_ble_eq_true rfl) ⟨rfl, rfl, rfl, rfl, trivial⟩
def F_X4_agreeing_b40 (fu : Nat)  (r1 n1 : Nat) (x2 : Int32) (k5 : Int32 → Int32 → xM → Option (Int32 × xM)) (x3 : Int32) (x4 : Int32) (M : xM) : Option (Int32 × xM) :=
  k5 x3 (x4 + (1 : Int32)) M
set_option maxRecDepth 100000 in
set_option maxHeartbeats 4000000 in
theorem a_X4_agreeing_b40 {l : Launch} (fu : Nat) (r1 n1 : Nat) (x2 : Int32) (h1 : SC[r1]? = some (.inl (0, n1))) {k5 : Int32 → Int32 → xM → Option (Int32 × xM)} (hk5 : ∀ (b0 : Int32) (b1 : Int32) (M : xM), AW SC l RX4 cX4_agreeing 5 (some .int) 67 ki (k5 b0 b1 M) 5 [some (xr 3), some (xr r1), some (xi x2), some (xi b0), some (xi b1)] [] M) (x3 : Int32) (x4 : Int32) (M : xM)  : AW SC l RX4 cX4_agreeing 5 (some .int) 67 ki (F_X4_agreeing_b40 fu r1 n1 x2 k5 x3 x4 M) 40 [some (xr 3), some (xr r1), some (xi x2), some (xi x3), some (xi x4)] [] M := by
  unfold F_X4_agreeing_b40
  refine A_iinc dX4_agreeing_40 rfl oI_1 (Nat.le_of_ble_eq_true rfl) rfl ?_
  refine A_goto (tgt := 5) dX4_agreeing_43 (by decide) ?_
  exact (hk5 _ _ _).sub ⟨rfl, rfl, rfl, rfl, rfl, trivial⟩
def F_X4_agreeing_b5 (fu : Nat)  (r1 n1 : Nat) (x2 : Int32)  : Nat → Int32 → Int32 → xM → Option (Int32 × xM)
  | 0, _, _, _ => none
  | n + 1, x3, x4, M =>
    (if (M 3 0) ≤ x4 then
    some (x3, M)
    else
    (F_X4_votersBy fu x4 r1 n1 x2 M).bind fun q1 =>
    (if q1.1 = (P_X1_at r1 n1 (x2 + (4 : Int32)) q1.2) then
    F_X4_agreeing_b40 fu r1 n1 x2 (F_X4_agreeing_b5 fu r1 n1 x2 n) (x3 ||| (P_X1_bit x4 q1.2)) x4 q1.2
    else
    F_X4_agreeing_b40 fu r1 n1 x2 (F_X4_agreeing_b5 fu r1 n1 x2 n) x3 x4 q1.2))
set_option maxRecDepth 100000 in
set_option maxHeartbeats 4000000 in
theorem a_X4_agreeing_b5 {l : Launch} (fu : Nat) (r1 n1 : Nat) (x2 : Int32) (h1 : SC[r1]? = some (.inl (0, n1)))   : ∀ (n : Nat) (x3 : Int32) (x4 : Int32) (M : xM), AW SC l RX4 cX4_agreeing 5 (some .int) 67 ki (F_X4_agreeing_b5 fu r1 n1 x2 n x3 x4 M) 5 [some (xr 3), some (xr r1), some (xi x2), some (xi x3), some (xi x4)] [] M := by
  intro n
  induction n with
  | zero =>
    intro x3 x4 M
    exact AW.none
  | succ n ih =>
    intro x3 x4 M
    rw [F_X4_agreeing_b5]
    refine A_iload dX4_agreeing_5 rfl ?_
    refine A_aload_n dX4_agreeing_7 rfl ?_
    refine A_geti lf_X4_31 rfl rfl dX4_agreeing_8 ?_
    refine A_icmp_ge (tgt := 46) dX4_agreeing_11 (by decide) (fun _ => ?_) (fun _ => ?_)
    · refine A_iload_n dX4_agreeing_46 rfl ?_
      exact A_iret rfl dX4_agreeing_47
    · refine A_aload_n dX4_agreeing_14 rfl ?_
      refine A_iload dX4_agreeing_15 rfl ?_
      refine A_aload_n dX4_agreeing_17 rfl ?_
      refine A_iload_n dX4_agreeing_18 rfl ?_
      refine A_callVi (a_X4_votersBy (l := l) fu _ _ _ _ _ h1) lc_X4_83 rfl rfl (by decide) (Nat.le_of_ble_eq_true rfl) rfl dX4_agreeing_19 (fun q1 Mq1 hq1 => ?_)
      refine A_aload_n dX4_agreeing_22 rfl ?_
      refine A_iload_n dX4_agreeing_23 rfl ?_
      refine A_iconst (v := (4 : Int32)) dX4_agreeing_24 oI_4 ?_
      refine A_iadd dX4_agreeing_25 ?_
      refine A_callSp (a_X1_at (S := SC) (l := l) _ _ _ _ h1) lc_X4_72 rfl (by decide) (Nat.le_of_ble_eq_true rfl) rfl dX4_agreeing_26 ?_
      refine A_icmp_ne (tgt := 40) dX4_agreeing_29 (by decide) (fun _ => ?_) (fun _ => ?_)
      · refine A_iload_n dX4_agreeing_32 rfl ?_
        refine A_iload dX4_agreeing_33 rfl ?_
        refine A_callSp (a_X1_bit (S := SC) (l := l) _ _ ) lc_X4_89 rfl (by decide) (Nat.le_of_ble_eq_true rfl) rfl dX4_agreeing_35 ?_
        refine A_ior dX4_agreeing_38 ?_
        refine A_istore_n dX4_agreeing_39 (Nat.le_of_ble_eq_true rfl) rfl ?_
        exact (a_X4_agreeing_b40 (l := l) fu r1 n1 x2 h1 ih _ _ _ ).sub ⟨rfl, rfl, rfl, rfl, rfl, trivial⟩
      · exact (a_X4_agreeing_b40 (l := l) fu r1 n1 x2 h1 ih _ _ _ ).sub ⟨rfl, rfl, rfl, rfl, rfl, trivial⟩
def F_X4_agreeing (fu : Nat)  (r1 n1 : Nat) (x2 : Int32)   (M : xM) : Option (Int32 × xM) :=
  F_X4_agreeing_b5 fu r1 n1 x2 fu (0 : Int32) (0 : Int32) M
set_option maxRecDepth 100000 in
set_option maxHeartbeats 4000000 in
theorem w_X4_agreeing {l : Launch} (fu : Nat) (r1 n1 : Nat) (x2 : Int32) (h1 : SC[r1]? = some (.inl (0, n1)))    (M : xM)  : AW SC l RX4 cX4_agreeing 5 (some .int) 67 ki (F_X4_agreeing fu r1 n1 x2  M) 0 [some (xr 3), some (xr r1), some (xi x2), none, none] [] M := by
  unfold F_X4_agreeing
  refine A_iconst (v := (0 : Int32)) dX4_agreeing_0 oI_0 ?_
  refine A_istore_n dX4_agreeing_1 (Nat.le_of_ble_eq_true rfl) rfl ?_
  refine A_iconst (v := (0 : Int32)) dX4_agreeing_2 oI_0 ?_
  refine A_istore dX4_agreeing_3 (Nat.le_of_ble_eq_true rfl) rfl ?_
  exact (a_X4_agreeing_b5 (l := l) fu r1 n1 x2 h1  fu _ _ _).sub ⟨rfl, rfl, rfl, rfl, rfl, trivial⟩
theorem a_X4_agreeing {l : Launch} (fu : Nat)  (r1 n1 : Nat) (x2 : Int32) (M : xM) (h1 : SC[r1]? = some (.inl (0, n1))) : AM SC l yX4_agreeing cX4_agreeing 5 (some .int) 67 ki [xr 3, xr r1, xi x2] M (F_X4_agreeing fu r1 n1 x2  M) :=
  AM.of (L0 := [some (xr 3), some (xr r1), some (xi x2), none, none]) (w_X4_agreeing (l := l) fu r1 n1 x2 h1  M ) (by decide +kernel) rfl (Nat.le_of_ble_eq_true rfl) ⟨rfl, rfl, rfl, trivial⟩
