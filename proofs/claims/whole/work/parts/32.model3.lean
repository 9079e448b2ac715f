theorem lk_X12_361 : Jvm.Cond.constant RX12 361 (1000000) ∈ lw_g := lw_gm 1897 (by decide +kernel) rfl
theorem lf_X12_346 : xfl RX12 346 11 43 (tyX12 43) false := ⟨_, _, _, _, xc_X12, by decide, rfl, rfl, rfl, lw_gm 1456 (by decide +kernel) rfl⟩
theorem lf_X12_349 : xfl RX12 349 11 42 (tyX12 42) false := ⟨_, _, _, _, xc_X12, by decide, rfl, rfl, rfl, lw_gm 1455 (by decide +kernel) rfl⟩
theorem lf_X12_355 : xfl RX12 355 11 44 (tyX12 44) false := ⟨_, _, _, _, xc_X12, by decide, rfl, rfl, rfl, lw_gm 1457 (by decide +kernel) rfl⟩
theorem lf_X12_63 : xfl RX12 63 11 29 (tyX12 29) true := ⟨_, _, _, _, xc_X12, by decide, rfl, rfl, rfl, lw_gm 1442 (by decide +kernel) rfl⟩
theorem lf_X12_72 : xfl RX12 72 11 33 (tyX12 33) true := ⟨_, _, _, _, xc_X12, by decide, rfl, rfl, rfl, lw_gm 1446 (by decide +kernel) rfl⟩
theorem lf_X12_75 : xfl RX12 75 11 34 (tyX12 34) true := ⟨_, _, _, _, xc_X12, by decide, rfl, rfl, rfl, lw_gm 1447 (by decide +kernel) rfl⟩
theorem lf_X12_78 : xfl RX12 78 11 35 (tyX12 35) true := ⟨_, _, _, _, xc_X12, by decide, rfl, rfl, rfl, lw_gm 1448 (by decide +kernel) rfl⟩
theorem lf_X12_81 : xfl RX12 81 11 36 (tyX12 36) true := ⟨_, _, _, _, xc_X12, by decide, rfl, rfl, rfl, lw_gm 1449 (by decide +kernel) rfl⟩
theorem lf_X12_84 : xfl RX12 84 11 37 (tyX12 37) true := ⟨_, _, _, _, xc_X12, by decide, rfl, rfl, rfl, lw_gm 1450 (by decide +kernel) rfl⟩
theorem lf_X12_87 : xfl RX12 87 11 38 (tyX12 38) true := ⟨_, _, _, _, xc_X12, by decide, rfl, rfl, rfl, lw_gm 1451 (by decide +kernel) rfl⟩
theorem lf_X12_90 : xfl RX12 90 11 39 (tyX12 39) true := ⟨_, _, _, _, xc_X12, by decide, rfl, rfl, rfl, lw_gm 1452 (by decide +kernel) rfl⟩
theorem lf_X12_93 : xfl RX12 93 11 40 (tyX12 40) true := ⟨_, _, _, _, xc_X12, by decide, rfl, rfl, rfl, lw_gm 1453 (by decide +kernel) rfl⟩
theorem lf_X12_96 : xfl RX12 96 11 41 (tyX12 41) true := ⟨_, _, _, _, xc_X12, by decide, rfl, rfl, rfl, lw_gm 1454 (by decide +kernel) rfl⟩
theorem lc_X12_168 : xlS RX12 168 Lib.Math.min.name Lib.Math.min.code 2 (some .int) 2 := ⟨⟨lw_gm 1411 (by decide +kernel) rfl, lw_gm 107 (by decide +kernel) rfl, lw_gm 142 (by decide +kernel) rfl, ⟨by decide, by decide, by decide +kernel⟩, by decide⟩, lw_gm 141 (by decide +kernel) rfl⟩
theorem lc_X12_174 : xlS RX12 174 Lib.Math.max.name Lib.Math.max.code 2 (some .int) 2 := ⟨⟨lw_gm 1412 (by decide +kernel) rfl, lw_gm 107 (by decide +kernel) rfl, lw_gm 145 (by decide +kernel) rfl, ⟨by decide, by decide, by decide +kernel⟩, by decide⟩, lw_gm 144 (by decide +kernel) rfl⟩
theorem lc_X12_337 : xlV RX12 337 yX12_isMachine cX12_isMachine 2 (some .boolean) 1 11 := ⟨⟨lw_gm 1845 (by decide +kernel) rfl, lw_gm 117 (by decide +kernel) rfl, lw_gm 1848 (by decide +kernel) rfl, ⟨by decide, by decide, by decide +kernel⟩, by decide⟩, lw_gm 1847 (by decide +kernel) rfl, lw_gm 58 (by decide +kernel) rfl, _, _, rfl⟩
theorem lc_X12_340 : xlV RX12 340 yX12_votersBy cX12_votersBy 4 (some .int) 2 11 := ⟨⟨lw_gm 1849 (by decide +kernel) rfl, lw_gm 117 (by decide +kernel) rfl, lw_gm 1852 (by decide +kernel) rfl, ⟨by decide, by decide, by decide +kernel⟩, by decide⟩, lw_gm 1851 (by decide +kernel) rfl, lw_gm 59 (by decide +kernel) rfl, _, _, rfl⟩
theorem lc_X12_343 : xlV RX12 343 yX12_isLever cX12_isLever 2 (some .boolean) 1 11 := ⟨⟨lw_gm 1861 (by decide +kernel) rfl, lw_gm 117 (by decide +kernel) rfl, lw_gm 1864 (by decide +kernel) rfl, ⟨by decide, by decide, by decide +kernel⟩, by decide⟩, lw_gm 1863 (by decide +kernel) rfl, lw_gm 60 (by decide +kernel) rfl, _, _, rfl⟩
theorem lc_X12_352 : xlV RX12 352 yX12_shown cX12_shown 3 (some .int) 2 11 := ⟨⟨lw_gm 1885 (by decide +kernel) rfl, lw_gm 117 (by decide +kernel) rfl, lw_gm 1888 (by decide +kernel) rfl, ⟨by decide, by decide, by decide +kernel⟩, by decide⟩, lw_gm 1887 (by decide +kernel) rfl, lw_gm 64 (by decide +kernel) rfl, _, _, rfl⟩
theorem lc_X12_358 : xlV RX12 358 yX12_isTold cX12_isTold 4 (some .boolean) 2 11 := ⟨⟨lw_gm 1881 (by decide +kernel) rfl, lw_gm 117 (by decide +kernel) rfl, lw_gm 1884 (by decide +kernel) rfl, ⟨by decide, by decide, by decide +kernel⟩, by decide⟩, lw_gm 1883 (by decide +kernel) rfl, lw_gm 63 (by decide +kernel) rfl, _, _, rfl⟩
theorem lc_X12_362 : xlV RX12 362 yX12_lay cX12_lay 7 none 2 11 := ⟨⟨lw_gm 1877 (by decide +kernel) rfl, lw_gm 117 (by decide +kernel) rfl, lw_gm 1880 (by decide +kernel) rfl, ⟨by decide, by decide, by decide +kernel⟩, by decide⟩, lw_gm 1879 (by decide +kernel) rfl, lw_gm 62 (by decide +kernel) rfl, _, _, rfl⟩
theorem lc_X12_366 : xlV RX12 366 yX12_sumOfLeast cX12_sumOfLeast 4 (some .int) 1 11 := ⟨⟨lw_gm 1889 (by decide +kernel) rfl, lw_gm 117 (by decide +kernel) rfl, lw_gm 1892 (by decide +kernel) rfl, ⟨by decide, by decide, by decide +kernel⟩, by decide⟩, lw_gm 1891 (by decide +kernel) rfl, lw_gm 65 (by decide +kernel) rfl, _, _, rfl⟩
theorem lc_X12_369 : xlV RX12 369 yX12_boundOf cX12_boundOf 2 (some .int) 1 11 := ⟨⟨lw_gm 1893 (by decide +kernel) rfl, lw_gm 117 (by decide +kernel) rfl, lw_gm 1896 (by decide +kernel) rfl, ⟨by decide, by decide, by decide +kernel⟩, by decide⟩, lw_gm 1895 (by decide +kernel) rfl, lw_gm 66 (by decide +kernel) rfl, _, _, rfl⟩
theorem lc_X12_372 : xlV RX12 372 yX12_fits cX12_fits 4 (some .boolean) 2 11 := ⟨⟨lw_gm 1873 (by decide +kernel) rfl, lw_gm 117 (by decide +kernel) rfl, lw_gm 1876 (by decide +kernel) rfl, ⟨by decide, by decide, by decide +kernel⟩, by decide⟩, lw_gm 1875 (by decide +kernel) rfl, lw_gm 61 (by decide +kernel) rfl, _, _, rfl⟩
theorem lc_X12_375 : xlV RX12 375 yX12_fewestOf cX12_fewestOf 4 (some .int) 1 11 := ⟨⟨lw_gm 1902 (by decide +kernel) rfl, lw_gm 117 (by decide +kernel) rfl, lw_gm 1905 (by decide +kernel) rfl, ⟨by decide, by decide, by decide +kernel⟩, by decide⟩, lw_gm 1904 (by decide +kernel) rfl, lw_gm 67 (by decide +kernel) rfl, _, _, rfl⟩
def F_X12_votersBy_b16 (fu : Nat)  (x1 : Int32) (x2 : Int32)  : Nat → Int32 → xM → Option (Int32 × xM)
  | 0, _, _ => none
  | n + 1, x3, M =>
    (if (5 : Int32) ≤ x3 then
    (if x2 < 0 ∨ 4 ≤ x2.toNatClampNeg then none else
    (F_X12_goThrough fu 8 480 ((120 : Int32) * x2) (M 9 x2.toNatClampNeg) M).bind fun q1 =>
    some ((jmax (0 : Int32) (jmin (999 : Int32) (q1 0 24))), q1))
    else
    (if x3 < 0 ∨ (xtx 1001).length ≤ x3.toNatClampNeg then none else
    (if (((5 : Int32) * x1) + x3) < 0 ∨ 30 ≤ (((5 : Int32) * x1) + x3).toNatClampNeg then none else
    (if ((xtx 1001).getD x3.toNatClampNeg 0) < 0 ∨ 128 ≤ ((xtx 1001).getD x3.toNatClampNeg 0).toNatClampNeg then none else
    F_X12_votersBy_b16 fu x1 x2 n (x3 + (1 : Int32)) (xset M 10 ((xtx 1001).getD x3.toNatClampNeg 0).toNatClampNeg (M 11 (((5 : Int32) * x1) + x3).toNatClampNeg))))))
set_option maxRecDepth 100000 in
set_option maxHeartbeats 4000000 in
theorem a_X12_votersBy_b16 {l : Launch} (fu : Nat) (x1 : Int32) (x2 : Int32)    : ∀ (n : Nat) (x3 : Int32) (M : xM), AW SM l RX12 cX12_votersBy 4 (some .int) 75 ki (F_X12_votersBy_b16 fu x1 x2 n x3 M) 16 [some (xr 0), some (xi x1), some (xi x2), some (xi x3)] [] M := by
  intro n
  induction n with
  | zero =>
    intro x3 M
    exact AW.none
  | succ n ih =>
    intro x3 M
    rw [F_X12_votersBy_b16]
    refine A_iload_n dX12_votersBy_16 rfl ?_
    refine A_iconst (v := (5 : Int32)) dX12_votersBy_17 oI_5 ?_
    refine A_icmp_ge (tgt := 48) dX12_votersBy_18 (by decide) (fun _ => ?_) (fun _ => ?_)
    · refine A_aload_n dX12_votersBy_48 rfl ?_
      refine A_aload_n dX12_votersBy_49 rfl ?_
      refine A_getr lf_X12_33 rfl rfl dX12_votersBy_50 ?_
      refine A_bipush (v := (120 : Int32)) dX12_votersBy_53 oB_120 ?_
      refine A_iload_n dX12_votersBy_55 rfl ?_
      refine A_imul dX12_votersBy_56 ?_
      refine A_aload_n dX12_votersBy_57 rfl ?_
      refine A_getr lf_X12_36 rfl rfl dX12_votersBy_58 ?_
      refine A_iload_n dX12_votersBy_61 rfl ?_
      refine A_iald rfl dX12_votersBy_62 (fun _ => ?_)
      refine A_callVv (a_X12_goThrough (l := l) fu _ _ _ _ _ rfl) lc_X12_324 rfl rfl (by decide) (Nat.le_of_ble_eq_true rfl) rfl dX12_votersBy_63 (fun q1 hq1 => ?_)
      refine A_iconst (v := (0 : Int32)) dX12_votersBy_66 oI_0 ?_
      refine A_sipush (v := (999 : Int32)) dX12_votersBy_67 oS_999 ?_
      refine A_aload_n dX12_votersBy_70 rfl ?_
      refine A_geti lf_X12_318 rfl rfl dX12_votersBy_71 ?_
      refine A_jmin lc_X12_168 (by decide) (Nat.le_of_ble_eq_true rfl) dX12_votersBy_74 ?_
      refine A_jmax lc_X12_174 (by decide) (Nat.le_of_ble_eq_true rfl) dX12_votersBy_77 ?_
      exact A_iret rfl dX12_votersBy_80
    · refine A_aload_n dX12_votersBy_21 rfl ?_
      refine A_getr lf_X12_39 rfl rfl dX12_votersBy_22 ?_
      refine A_ldcS1 dX12_votersBy_25 ?_
      refine A_iload_n dX12_votersBy_27 rfl ?_
      refine A_chr (by decide) (by decide) (Nat.le_of_ble_eq_true rfl) dX12_votersBy_28 (fun _ => ?_)
      refine A_aload_n dX12_votersBy_31 rfl ?_
      refine A_getr lf_X12_60 rfl rfl dX12_votersBy_32 ?_
      refine A_iconst (v := (5 : Int32)) dX12_votersBy_35 oI_5 ?_
      refine A_iload_n dX12_votersBy_36 rfl ?_
      refine A_imul dX12_votersBy_37 ?_
      refine A_iload_n dX12_votersBy_38 rfl ?_
      refine A_iadd dX12_votersBy_39 ?_
      refine A_iald rfl dX12_votersBy_40 (fun _ => ?_)
      refine A_iast rfl dX12_votersBy_41 (fun _ => ?_)
      refine A_iinc dX12_votersBy_42 rfl oI_1 (Nat.le_of_ble_eq_true rfl) rfl ?_
      refine A_goto (tgt := 16) dX12_votersBy_45 (by decide) ?_
      exact (ih _ _).sub ⟨rfl, rfl, rfl, rfl, trivial⟩
def F_X12_votersBy (fu : Nat)  (x1 : Int32) (x2 : Int32)   (M : xM) : Option (Int32 × xM) :=
  (if x2 = (-1 : Int32) then
  (if ((5 : Int32) * x1) < 0 ∨ 30 ≤ ((5 : Int32) * x1).toNatClampNeg then none else
  some ((M 11 ((5 : Int32) * x1).toNatClampNeg), M))
  else
  F_X12_votersBy_b16 fu x1 x2 fu (0 : Int32) M)
set_option maxRecDepth 100000 in
set_option maxHeartbeats 4000000 in
theorem w_X12_votersBy {l : Launch} (fu : Nat) (x1 : Int32) (x2 : Int32)     (M : xM)  : AW SM l RX12 cX12_votersBy 4 (some .int) 75 ki (F_X12_votersBy fu x1 x2  M) 0 [some (xr 0), some (xi x1), some (xi x2), none] [] M := by
  unfold F_X12_votersBy
  refine A_iload_n dX12_votersBy_0 rfl ?_
  refine A_iconst (v := (-1 : Int32)) dX12_votersBy_1 oI_m1 ?_
  refine A_icmp_ne (tgt := 14) dX12_votersBy_2 (by decide) (fun _ => ?_) (fun _ => ?_)
  · refine A_aload_n dX12_votersBy_5 rfl ?_
    refine A_getr lf_X12_60 rfl rfl dX12_votersBy_6 ?_
    refine A_iconst (v := (5 : Int32)) dX12_votersBy_9 oI_5 ?_
    refine A_iload_n dX12_votersBy_10 rfl ?_
    refine A_imul dX12_votersBy_11 ?_
    refine A_iald rfl dX12_votersBy_12 (fun _ => ?_)
    exact A_iret rfl dX12_votersBy_13
  · refine A_iconst (v := (0 : Int32)) dX12_votersBy_14 oI_0 ?_
    refine A_istore_n dX12_votersBy_15 (Nat.le_of_ble_eq_true rfl) rfl ?_
    exact (a_X12_votersBy_b16 (l := l) fu x1 x2  fu _ _).sub ⟨rfl, rfl, rfl, rfl, trivial⟩
theorem a_X12_votersBy {l : Launch} (fu : Nat)  (x1 : Int32) (x2 : Int32) (M : xM)  : AM SM l yX12_votersBy cX12_votersBy 4 (some .int) 75 ki [xr 0, xi x1, xi x2] M (F_X12_votersBy fu x1 x2  M) :=
  AM.of (L0 := [some (xr 0), some (xi x1), some (xi x2), none]) (w_X12_votersBy (l := l) fu x1 x2  M ) (by decide +kernel) rfl (Nat.le_of_ble_eq_true rfl) ⟨rfl, rfl, rfl, trivial⟩
def F_X12_voters (fu : Nat)  (x1 : Int32)   (M : xM) : Option (Int32 × xM) :=
  (if (P_X12_isMachine x1 (xset M 0 0 (0 : Int32))) = 0 then
  some ((-1 : Int32), (xset M 0 0 (0 : Int32)))
  else
  (F_X12_votersBy fu x1 ((xset M 0 0 (0 : Int32)) 0 17) (xset M 0 0 (0 : Int32))).bind fun q1 =>
  some (q1.1, q1.2))
set_option maxRecDepth 100000 in
set_option maxHeartbeats 4000000 in
theorem w_X12_voters {l : Launch} (fu : Nat) (x1 : Int32)     (M : xM)  : AW SM l RX12 cX12_voters 2 (some .int) 76 ki (F_X12_voters fu x1  M) 0 [some (xr 0), some (xi x1)] [] M := by
  unfold F_X12_voters
  refine A_aload_n dX12_voters_0 rfl ?_
  refine A_iconst (v := (0 : Int32)) dX12_voters_1 oI_0 ?_
  refine A_puti lf_X12_180 rfl rfl dX12_voters_2 ?_
  refine A_aload_n dX12_voters_5 rfl ?_
  refine A_iload_n dX12_voters_6 rfl ?_
  refine A_callVp (a_X12_isMachine (l := l) _ _ ) lc_X12_337 rfl rfl (by decide) (Nat.le_of_ble_eq_true rfl) rfl dX12_voters_7 ?_
  refine A_if_eq (tgt := 25) dX12_voters_10 (by decide) (fun _ => ?_) (fun _ => ?_)
  · refine A_iconst (v := (-1 : Int32)) dX12_voters_25 oI_m1 ?_
    exact A_iret rfl dX12_voters_26
  · refine A_aload_n dX12_voters_13 rfl ?_
    refine A_iload_n dX12_voters_14 rfl ?_
    refine A_aload_n dX12_voters_15 rfl ?_
    refine A_geti lf_X12_45 rfl rfl dX12_voters_16 ?_
    refine A_callVi (a_X12_votersBy (l := l) fu _ _ _ ) lc_X12_340 rfl rfl (by decide) (Nat.le_of_ble_eq_true rfl) rfl dX12_voters_19 (fun q1 Mq1 hq1 => ?_)
    refine A_goto (tgt := 26) dX12_voters_22 (by decide) ?_
    exact A_iret rfl dX12_voters_26
theorem a_X12_voters {l : Launch} (fu : Nat)  (x1 : Int32) (M : xM)  : AM SM l yX12_voters cX12_voters 2 (some .int) 76 ki [xr 0, xi x1] M (F_X12_voters fu x1  M) :=
  AM.of (L0 := [some (xr 0), some (xi x1)]) (w_X12_voters (l := l) fu x1  M ) (by decide +kernel) rfl (Nat.le_of_ble_eq_true rfl) ⟨rfl, rfl, trivial⟩
def F_X12_agree_b54 (fu : Nat)  (x1 : Int32) (k19 : Int32 → Int32 → xM → Option (Int32 × xM)) (x3 : Int32) (s0 : Int32) (s1 : Int32) (M : xM) : Option (Int32 × xM) :=
  k19 (s1 ||| s0) (x3 + (1 : Int32)) M
set_option maxRecDepth 100000 in
set_option maxHeartbeats 4000000 in
theorem a_X12_agree_b54 {l : Launch} (fu : Nat) (x1 : Int32)  {k19 : Int32 → Int32 → xM → Option (Int32 × xM)} (hk19 : ∀ (b0 : Int32) (b1 : Int32) (M : xM), AW SM l RX12 cX12_agree 4 (some .int) 76 ki (k19 b0 b1 M) 19 [some (xr 0), some (xi x1), some (xi b0), some (xi b1)] [] M) (x3 : Int32) (s0 : Int32) (s1 : Int32) (M : xM)  : AW SM l RX12 cX12_agree 4 (some .int) 76 ki (F_X12_agree_b54 fu x1 k19 x3 s0 s1 M) 54 [some (xr 0), some (xi x1), none, some (xi x3)] [xi s0, xi s1] M := by
  unfold F_X12_agree_b54
  refine A_ior dX12_agree_54 ?_
  refine A_istore_n dX12_agree_55 (Nat.le_of_ble_eq_true rfl) rfl ?_
  refine A_iinc dX12_agree_56 rfl oI_1 (Nat.le_of_ble_eq_true rfl) rfl ?_
  refine A_goto (tgt := 19) dX12_agree_59 (by decide) ?_
  exact (hk19 _ _ _).sub ⟨rfl, rfl, rfl, rfl, trivial⟩
def F_X12_agree_b19 (fu : Nat)  (x1 : Int32)  : Nat → Int32 → Int32 → xM → Option (Int32 × xM)
  | 0, _, _, _ => none
  | n + 1, x2, x3, M =>
    (if (M 0 16) ≤ x3 then
    some (x2, M)
    else
    (F_X12_votersBy fu x1 x3 M).bind fun q1 =>
    (if (((5 : Int32) * x1) + (4 : Int32)) < 0 ∨ 30 ≤ (((5 : Int32) * x1) + (4 : Int32)).toNatClampNeg then none else
    (if q1.1 = (q1.2 11 (((5 : Int32) * x1) + (4 : Int32)).toNatClampNeg) then
    F_X12_agree_b54 fu x1 (F_X12_agree_b19 fu x1 n) x3 ((1 : Int32) <<< (x3 &&& 31)) x2 q1.2
    else
    F_X12_agree_b54 fu x1 (F_X12_agree_b19 fu x1 n) x3 (0 : Int32) x2 q1.2)))
set_option maxRecDepth 100000 in
set_option maxHeartbeats 4000000 in
theorem a_X12_agree_b19 {l : Launch} (fu : Nat) (x1 : Int32)    : ∀ (n : Nat) (x2 : Int32) (x3 : Int32) (M : xM), AW SM l RX12 cX12_agree 4 (some .int) 76 ki (F_X12_agree_b19 fu x1 n x2 x3 M) 19 [some (xr 0), some (xi x1), some (xi x2), some (xi x3)] [] M := by
  intro n
  induction n with
  | zero =>
    intro x2 x3 M
    exact AW.none
  | succ n ih =>
    intro x2 x3 M
    rw [F_X12_agree_b19]
    refine A_iload_n dX12_agree_19 rfl ?_
    refine A_aload_n dX12_agree_20 rfl ?_
    refine A_geti lf_X12_328 rfl rfl dX12_agree_21 ?_
    refine A_icmp_ge (tgt := 62) dX12_agree_24 (by decide) (fun _ => ?_) (fun _ => ?_)
    · refine A_iload_n dX12_agree_62 rfl ?_
      exact A_iret rfl dX12_agree_63
    · refine A_iload_n dX12_agree_27 rfl ?_
      refine A_aload_n dX12_agree_28 rfl ?_
      refine A_iload_n dX12_agree_29 rfl ?_
      refine A_iload_n dX12_agree_30 rfl ?_
      refine A_callVi (a_X12_votersBy (l := l) fu _ _ _ ) lc_X12_340 rfl rfl (by decide) (Nat.le_of_ble_eq_true rfl) rfl dX12_agree_31 (fun q1 Mq1 hq1 => ?_)
      refine A_aload_n dX12_agree_34 rfl ?_
      refine A_getr lf_X12_60 rfl rfl dX12_agree_35 ?_
      refine A_iconst (v := (5 : Int32)) dX12_agree_38 oI_5 ?_
      refine A_iload_n dX12_agree_39 rfl ?_
      refine A_imul dX12_agree_40 ?_
      refine A_iconst (v := (4 : Int32)) dX12_agree_41 oI_4 ?_
      refine A_iadd dX12_agree_42 ?_
      refine A_iald rfl dX12_agree_43 (fun _ => ?_)
      refine A_icmp_ne (tgt := 53) dX12_agree_44 (by decide) (fun _ => ?_) (fun _ => ?_)
      · refine A_iconst (v := (1 : Int32)) dX12_agree_47 oI_1 ?_
        refine A_iload_n dX12_agree_48 rfl ?_
        refine A_ishl dX12_agree_49 ?_
        refine A_goto (tgt := 54) dX12_agree_50 (by decide) ?_
        exact (a_X12_agree_b54 (l := l) fu x1 ih _ _ _ _ ).sub ⟨rfl, rfl, rfl, trivial⟩
      · refine A_iconst (v := (0 : Int32)) dX12_agree_53 oI_0 ?_
        exact (a_X12_agree_b54 (l := l) fu x1 ih _ _ _ _ ).sub ⟨rfl, rfl, rfl, trivial⟩
def F_X12_agree (fu : Nat)  (x1 : Int32)   (M : xM) : Option (Int32 × xM) :=
  (if (P_X12_isMachine x1 (xset M 0 0 (0 : Int32))) = 0 then
  some ((-1 : Int32), (xset M 0 0 (0 : Int32)))
  else
  F_X12_agree_b19 fu x1 fu (0 : Int32) (0 : Int32) (xset M 0 0 (0 : Int32)))
set_option maxRecDepth 100000 in
set_option maxHeartbeats 4000000 in
theorem w_X12_agree {l : Launch} (fu : Nat) (x1 : Int32)     (M : xM)  : AW SM l RX12 cX12_agree 4 (some .int) 76 ki (F_X12_agree fu x1  M) 0 [some (xr 0), some (xi x1), none, none] [] M := by
  unfold F_X12_agree
  refine A_aload_n dX12_agree_0 rfl ?_
  refine A_iconst (v := (0 : Int32)) dX12_agree_1 oI_0 ?_
  refine A_puti lf_X12_180 rfl rfl dX12_agree_2 ?_
  refine A_aload_n dX12_agree_5 rfl ?_
  refine A_iload_n dX12_agree_6 rfl ?_
  refine A_callVp (a_X12_isMachine (l := l) _ _ ) lc_X12_337 rfl rfl (by decide) (Nat.le_of_ble_eq_true rfl) rfl dX12_agree_7 ?_
  refine A_if_ne (tgt := 15) dX12_agree_10 (by decide) (fun _ => ?_) (fun _ => ?_)
  · refine A_iconst (v := (-1 : Int32)) dX12_agree_13 oI_m1 ?_
    exact A_iret rfl dX12_agree_14
  · refine A_iconst (v := (0 : Int32)) dX12_agree_15 oI_0 ?_
    refine A_istore_n dX12_agree_16 (Nat.le_of_ble_eq_true rfl) rfl ?_
    refine A_iconst (v := (0 : Int32)) dX12_agree_17 oI_0 ?_
    refine A_istore_n dX12_agree_18 (Nat.le_of_ble_eq_true rfl) rfl ?_
    exact (a_X12_agree_b19 (l := l) fu x1  fu _ _ _).sub ⟨rfl, rfl, rfl, rfl, trivial⟩
theorem a_X12_agree {l : Launch} (fu : Nat)  (x1 : Int32) (M : xM)  : AM SM l yX12_agree cX12_agree 4 (some .int) 76 ki [xr 0, xi x1] M (F_X12_agree fu x1  M) :=
  AM.of (L0 := [some (xr 0), some (xi x1), none, none]) (w_X12_agree (l := l) fu x1  M ) (by decide +kernel) rfl (Nat.le_of_ble_eq_true rfl) ⟨rfl, rfl, trivial⟩
def P_X12_isLever  (x1 : Int32)   (M : xM) : Int32 :=
  (if x1 < 0 then
  (0 : Int32)
  else
  (if (M 0 1) ≤ x1 then
  (0 : Int32)
  else
  (1 : Int32)))
set_option maxRecDepth 100000 in
set_option maxHeartbeats 4000000 in
theorem w_X12_isLever {l : Launch} (x1 : Int32)     (M : xM)  : AW SM l RX12 cX12_isLever 2 (some .boolean) 0 ki (some (P_X12_isLever x1  M, M)) 0 [some (xr 0), some (xi x1)] [] M := by
  unfold P_X12_isLever
  refine A_iload_n dX12_isLever_0 rfl ?_
  refine A_if_lt_p (tgt := 16) dX12_isLever_1 (by decide) (fun _ => ?_) (fun _ => ?_)
  · refine A_iconst (v := (0 : Int32)) dX12_isLever_16 oI_0 ?_
    exact A_zret' rfl (Or.inl rfl) dX12_isLever_17
  · refine A_iload_n dX12_isLever_4 rfl ?_
    refine A_aload_n dX12_isLever_5 rfl ?_
    refine A_geti lf_X12_177 rfl rfl dX12_isLever_6 ?_
    refine A_icmp_ge_p (tgt := 16) dX12_isLever_9 (by decide) (fun _ => ?_) (fun _ => ?_)
    · refine A_iconst (v := (0 : Int32)) dX12_isLever_16 oI_0 ?_
      exact A_zret' rfl (Or.inl rfl) dX12_isLever_17
    · refine A_iconst (v := (1 : Int32)) dX12_isLever_12 oI_1 ?_
      refine A_goto (tgt := 17) dX12_isLever_13 (by decide) ?_
      exact A_zret' rfl (Or.inr rfl) dX12_isLever_17
theorem a_X12_isLever {l : Launch}  (x1 : Int32) (M : xM)  : AM SM l yX12_isLever cX12_isLever 2 (some .boolean) 0 ki [xr 0, xi x1] M (some (P_X12_isLever  x1  M, M)) :=
  AM.of (L0 := [some (xr 0), some (xi x1)]) (w_X12_isLever (l := l) x1  M ) (by decide +kernel) rfl (Nat.le_of_ble_eq_true rfl) ⟨rfl, rfl, trivial⟩
theorem zP_X12_isLever (x1 : Int32) (M : xM) : P_X12_isLever x1 M = 0 ∨ P_X12_isLever x1 M = 1 := by
  unfold P_X12_isLever
  repeat' split
  all_goals first | decide
def F_X12_show  (x1 : Int32) (x2 : Int32) (x3 : Int32)   (M : xM) : Option (Int32 × xM) :=
  (if (P_X12_isMachine x1 (xset M 0 0 (0 : Int32))) = 0 then
  some ((0 : Int32), (xset M 0 0 (0 : Int32)))
  else
  (if (P_X12_isLever x2 (xset M 0 0 (0 : Int32))) = 0 then
  some ((0 : Int32), (xset M 0 0 (0 : Int32)))
  else
  (if (P_X12_isNumber x3 (xset M 0 0 (0 : Int32))) = 0 then
  some ((0 : Int32), (xset M 0 0 (0 : Int32)))
  else
  (if (((16 : Int32) * x1) + x2) < 0 ∨ 96 ≤ (((16 : Int32) * x1) + x2).toNatClampNeg then none else
  some ((1 : Int32), (xset (xset M 0 0 (0 : Int32)) 12 (((16 : Int32) * x1) + x2).toNatClampNeg x3))))))
set_option maxRecDepth 100000 in
set_option maxHeartbeats 4000000 in
theorem w_X12_show {l : Launch} (x1 : Int32) (x2 : Int32) (x3 : Int32)     (M : xM)  : AW SM l RX12 cX12_show 4 (some .boolean) 2 ki (F_X12_show x1 x2 x3  M) 0 [some (xr 0), some (xi x1), some (xi x2), some (xi x3)] [] M := by
  unfold F_X12_show
  refine A_aload_n dX12_show_0 rfl ?_
  refine A_iconst (v := (0 : Int32)) dX12_show_1 oI_0 ?_
  refine A_puti lf_X12_180 rfl rfl dX12_show_2 ?_
  refine A_aload_n dX12_show_5 rfl ?_
  refine A_iload_n dX12_show_6 rfl ?_
  refine A_callVp (a_X12_isMachine (l := l) _ _ ) lc_X12_337 rfl rfl (by decide) (Nat.le_of_ble_eq_true rfl) rfl dX12_show_7 ?_
  refine A_if_eq (tgt := 28) dX12_show_10 (by decide) (fun _ => ?_) (fun _ => ?_)
  · refine A_iconst (v := (0 : Int32)) dX12_show_28 oI_0 ?_
    exact A_zret' rfl (Or.inl rfl) dX12_show_29
  · refine A_aload_n dX12_show_13 rfl ?_
    refine A_iload_n dX12_show_14 rfl ?_
    refine A_callVp (a_X12_isLever (l := l) _ _ ) lc_X12_343 rfl rfl (by decide) (Nat.le_of_ble_eq_true rfl) rfl dX12_show_15 ?_
    refine A_if_eq (tgt := 28) dX12_show_18 (by decide) (fun _ => ?_) (fun _ => ?_)
    · refine A_iconst (v := (0 : Int32)) dX12_show_28 oI_0 ?_
      exact A_zret' rfl (Or.inl rfl) dX12_show_29
    · refine A_iload_n dX12_show_21 rfl ?_
      refine A_callSp (a_X12_isNumber (l := l) _ _ ) lc_X12_334 rfl (by decide) (Nat.le_of_ble_eq_true rfl) rfl dX12_show_22 ?_
      refine A_if_ne (tgt := 30) dX12_show_25 (by decide) (fun _ => ?_) (fun _ => ?_)
      · refine A_iconst (v := (0 : Int32)) dX12_show_28 oI_0 ?_
        exact A_zret' rfl (Or.inl rfl) dX12_show_29
      · refine A_aload_n dX12_show_30 rfl ?_
        refine A_getr lf_X12_63 rfl rfl dX12_show_31 ?_
        refine A_bipush (v := (16 : Int32)) dX12_show_34 oB_16 ?_
        refine A_iload_n dX12_show_36 rfl ?_
        refine A_imul dX12_show_37 ?_
        refine A_iload_n dX12_show_38 rfl ?_
        refine A_iadd dX12_show_39 ?_
        refine A_iload_n dX12_show_40 rfl ?_
        refine A_iast rfl dX12_show_41 (fun _ => ?_)
        refine A_iconst (v := (1 : Int32)) dX12_show_42 oI_1 ?_
        exact A_zret' rfl (Or.inr rfl) dX12_show_43
theorem a_X12_show {l : Launch}  (x1 : Int32) (x2 : Int32) (x3 : Int32) (M : xM)  : AM SM l yX12_show cX12_show 4 (some .boolean) 2 ki [xr 0, xi x1, xi x2, xi x3] M (F_X12_show  x1 x2 x3  M) :=
  AM.of (L0 := [some (xr 0), some (xi x1), some (xi x2), some (xi x3)]) (w_X12_show (l := l) x1 x2 x3  M ) (by decide +kernel) rfl (Nat.le_of_ble_eq_true rfl) ⟨rfl, rfl, rfl, rfl, trivial⟩
def F_X12_trouble_b124  (x1 : Int32) (x2 : Int32) (x3 : Int32) (x4 : Int32)  (s0 : Int32) (M : xM) : Option (Int32 × xM) :=
  (if s0 = 0 then
  some ((-1 : Int32), M)
  else
  (if x1 < 0 ∨ 6 ≤ x1.toNatClampNeg then none else
  (if (((8 : Int32) * x1) + (M 15 x1.toNatClampNeg)) < 0 ∨ 48 ≤ (((8 : Int32) * x1) + (M 15 x1.toNatClampNeg)).toNatClampNeg then none else
  (if (((8 : Int32) * x1) + (M 15 x1.toNatClampNeg)) < 0 ∨ 48 ≤ (((8 : Int32) * x1) + (M 15 x1.toNatClampNeg)).toNatClampNeg then none else
  (if (((8 : Int32) * x1) + (M 15 x1.toNatClampNeg)) < 0 ∨ 48 ≤ (((8 : Int32) * x1) + (M 15 x1.toNatClampNeg)).toNatClampNeg then none else
  (if x1 < 0 ∨ 6 ≤ x1.toNatClampNeg then none else
  (if x1 < 0 ∨ 6 ≤ x1.toNatClampNeg then none else
  (if x1 < 0 ∨ 6 ≤ x1.toNatClampNeg then none else
  some ((((xset (xset (xset (xset M 16 (((8 : Int32) * x1) + (M 15 x1.toNatClampNeg)).toNatClampNeg x2) 17 (((8 : Int32) * x1) + (M 15 x1.toNatClampNeg)).toNatClampNeg x3) 18 (((8 : Int32) * x1) + (M 15 x1.toNatClampNeg)).toNatClampNeg x4) 15 x1.toNatClampNeg (((xset (xset (xset M 16 (((8 : Int32) * x1) + (M 15 x1.toNatClampNeg)).toNatClampNeg x2) 17 (((8 : Int32) * x1) + (M 15 x1.toNatClampNeg)).toNatClampNeg x3) 18 (((8 : Int32) * x1) + (M 15 x1.toNatClampNeg)).toNatClampNeg x4) 15 x1.toNatClampNeg) + (1 : Int32))) 15 x1.toNatClampNeg) - (1 : Int32)), (xset (xset (xset (xset M 16 (((8 : Int32) * x1) + (M 15 x1.toNatClampNeg)).toNatClampNeg x2) 17 (((8 : Int32) * x1) + (M 15 x1.toNatClampNeg)).toNatClampNeg x3) 18 (((8 : Int32) * x1) + (M 15 x1.toNatClampNeg)).toNatClampNeg x4) 15 x1.toNatClampNeg (((xset (xset (xset M 16 (((8 : Int32) * x1) + (M 15 x1.toNatClampNeg)).toNatClampNeg x2) 17 (((8 : Int32) * x1) + (M 15 x1.toNatClampNeg)).toNatClampNeg x3) 18 (((8 : Int32) * x1) + (M 15 x1.toNatClampNeg)).toNatClampNeg x4) 15 x1.toNatClampNeg) + (1 : Int32))))))))))))
set_option maxRecDepth 100000 in
set_option maxHeartbeats 4000000 in
theorem a_X12_trouble_b124 {l : Launch} (x1 : Int32) (x2 : Int32) (x3 : Int32) (x4 : Int32)    (s0 : Int32) (M : xM)  : AW SM l RX12 cX12_trouble 7 (some .int) 1 ki (F_X12_trouble_b124 x1 x2 x3 x4 s0 M) 124 [some (xr 0), some (xi x1), some (xi x2), some (xi x3), some (xi x4), none, none] [xi s0] M := by
  unfold F_X12_trouble_b124
  refine A_istore dX12_trouble_124 (Nat.le_of_ble_eq_true rfl) rfl ?_
  refine A_iload dX12_trouble_126 rfl ?_
  refine A_if_ne (tgt := 133) dX12_trouble_128 (by decide) (fun _ => ?_) (fun _ => ?_)
  · refine A_iconst (v := (-1 : Int32)) dX12_trouble_131 oI_m1 ?_
    exact A_iret rfl dX12_trouble_132
  · refine A_bipush (v := (8 : Int32)) dX12_trouble_133 oB_8 ?_
    refine A_iload_n dX12_trouble_135 rfl ?_
    refine A_imul dX12_trouble_136 ?_
    refine A_aload_n dX12_trouble_137 rfl ?_
    refine A_getr lf_X12_72 rfl rfl dX12_trouble_138 ?_
    refine A_iload_n dX12_trouble_141 rfl ?_
    refine A_iald rfl dX12_trouble_142 (fun _ => ?_)
    refine A_iadd dX12_trouble_143 ?_
    refine A_istore dX12_trouble_144 (Nat.le_of_ble_eq_true rfl) rfl ?_
    refine A_aload_n dX12_trouble_146 rfl ?_
    refine A_getr lf_X12_75 rfl rfl dX12_trouble_147 ?_
    refine A_iload dX12_trouble_150 rfl ?_
    refine A_iload_n dX12_trouble_152 rfl ?_
    refine A_iast rfl dX12_trouble_153 (fun _ => ?_)
    refine A_aload_n dX12_trouble_154 rfl ?_
    refine A_getr lf_X12_78 rfl rfl dX12_trouble_155 ?_
    refine A_iload dX12_trouble_158 rfl ?_
    refine A_iload_n dX12_trouble_160 rfl ?_
    refine A_iast rfl dX12_trouble_161 (fun _ => ?_)
    refine A_aload_n dX12_trouble_162 rfl ?_
    refine A_getr lf_X12_81 rfl rfl dX12_trouble_163 ?_
    refine A_iload dX12_trouble_166 rfl ?_
    refine A_iload dX12_trouble_168 rfl ?_
    refine A_iast rfl dX12_trouble_170 (fun _ => ?_)
    refine A_aload_n dX12_trouble_171 rfl ?_
    refine A_getr lf_X12_72 rfl rfl dX12_trouble_172 ?_
    refine A_iload_n dX12_trouble_175 rfl ?_
    refine A_dup2 dX12_trouble_176 rfl rfl ?_
    refine A_iald rfl dX12_trouble_177 (fun _ => ?_)
    refine A_iconst (v := (1 : Int32)) dX12_trouble_178 oI_1 ?_
    refine A_iadd dX12_trouble_179 ?_
    refine A_iast rfl dX12_trouble_180 (fun _ => ?_)
    refine A_aload_n dX12_trouble_181 rfl ?_
    refine A_getr lf_X12_72 rfl rfl dX12_trouble_182 ?_
    refine A_iload_n dX12_trouble_185 rfl ?_
    refine A_iald rfl dX12_trouble_186 (fun _ => ?_)
    refine A_iconst (v := (1 : Int32)) dX12_trouble_187 oI_1 ?_
    refine A_isub dX12_trouble_188 ?_
    exact A_iret rfl dX12_trouble_189
def F_X12_trouble_b119  (x1 : Int32) (x2 : Int32) (x3 : Int32) (x4 : Int32)   (M : xM) : Option (Int32 × xM) :=
  F_X12_trouble_b124 x1 x2 x3 x4 (1 : Int32) M
set_option maxRecDepth 100000 in
set_option maxHeartbeats 4000000 in
theorem a_X12_trouble_b119 {l : Launch} (x1 : Int32) (x2 : Int32) (x3 : Int32) (x4 : Int32)     (M : xM)  : AW SM l RX12 cX12_trouble 7 (some .int) 1 ki (F_X12_trouble_b119 x1 x2 x3 x4  M) 119 [some (xr 0), some (xi x1), some (xi x2), some (xi x3), some (xi x4), none, none] [] M := by
  unfold F_X12_trouble_b119
  refine A_iconst (v := (1 : Int32)) dX12_trouble_119 oI_1 ?_
  refine A_goto (tgt := 124) dX12_trouble_120 (by decide) ?_
  exact (a_X12_trouble_b124 (l := l) x1 x2 x3 x4  _ _ ).sub ⟨rfl, rfl, rfl, rfl, rfl, trivial⟩
def F_X12_trouble_b123  (x1 : Int32) (x2 : Int32) (x3 : Int32) (x4 : Int32)   (M : xM) : Option (Int32 × xM) :=
  F_X12_trouble_b124 x1 x2 x3 x4 (0 : Int32) M
set_option maxRecDepth 100000 in
set_option maxHeartbeats 4000000 in
theorem a_X12_trouble_b123 {l : Launch} (x1 : Int32) (x2 : Int32) (x3 : Int32) (x4 : Int32)     (M : xM)  : AW SM l RX12 cX12_trouble 7 (some .int) 1 ki (F_X12_trouble_b123 x1 x2 x3 x4  M) 123 [some (xr 0), some (xi x1), some (xi x2), some (xi x3), some (xi x4), none, none] [] M := by
  unfold F_X12_trouble_b123
  refine A_iconst (v := (0 : Int32)) dX12_trouble_123 oI_0 ?_
  exact (a_X12_trouble_b124 (l := l) x1 x2 x3 x4  _ _ ).sub ⟨rfl, rfl, rfl, rfl, rfl, trivial⟩
def F_X12_trouble  (x1 : Int32) (x2 : Int32) (x3 : Int32) (x4 : Int32)   (M : xM) : Option (Int32 × xM) :=
  (if (P_X12_isMachine x1 (xset M 0 0 (0 : Int32))) = 0 then
  some ((-1 : Int32), (xset M 0 0 (0 : Int32)))
  else
  (if x1 < 0 ∨ 6 ≤ x1.toNatClampNeg then none else
  (if ((xset M 0 0 (0 : Int32)) 15 x1.toNatClampNeg) = (8 : Int32) then
  some ((-1 : Int32), (xset M 0 0 (0 : Int32)))
  else
  (if (P_X12_isIn x2 (0 : Int32) (4 : Int32) (xset M 0 0 (0 : Int32))) = 0 then
  some ((-1 : Int32), (xset M 0 0 (0 : Int32)))
  else
  (if x2 = (4 : Int32) then
  F_X12_trouble_b124 x1 x2 x3 x4 (P_X12_isIn x3 (0 : Int32) (((xset M 0 0 (0 : Int32)) 0 7) - (1 : Int32)) (xset M 0 0 (0 : Int32))) (xset M 0 0 (0 : Int32))
  else
  (if (P_X12_isLever x3 (xset M 0 0 (0 : Int32))) = 0 then
  F_X12_trouble_b123 x1 x2 x3 x4  (xset M 0 0 (0 : Int32))
  else
  (if x2 = 0 then
  (if (P_X12_isIn x4 (0 : Int32) (1 : Int32) (xset M 0 0 (0 : Int32))) = 0 then
  F_X12_trouble_b123 x1 x2 x3 x4  (xset M 0 0 (0 : Int32))
  else
  F_X12_trouble_b119 x1 x2 x3 x4  (xset M 0 0 (0 : Int32)))
  else
  (if x2 = (1 : Int32) then
  (if (P_X12_isLever x4 (xset M 0 0 (0 : Int32))) = 0 then
  F_X12_trouble_b123 x1 x2 x3 x4  (xset M 0 0 (0 : Int32))
  else
  (if x3 = x4 then
  F_X12_trouble_b123 x1 x2 x3 x4  (xset M 0 0 (0 : Int32))
  else
  F_X12_trouble_b119 x1 x2 x3 x4  (xset M 0 0 (0 : Int32))))
  else
  (if x2 = (2 : Int32) then
  F_X12_trouble_b119 x1 x2 x3 x4  (xset M 0 0 (0 : Int32))
  else
  (if (P_X12_isIn x4 (1 : Int32) (999 : Int32) (xset M 0 0 (0 : Int32))) = 0 then
  F_X12_trouble_b123 x1 x2 x3 x4  (xset M 0 0 (0 : Int32))
  else
  F_X12_trouble_b119 x1 x2 x3 x4  (xset M 0 0 (0 : Int32))))))))))))
set_option maxRecDepth 100000 in
set_option maxHeartbeats 4000000 in
theorem w_X12_trouble {l : Launch} (x1 : Int32) (x2 : Int32) (x3 : Int32) (x4 : Int32)     (M : xM)  : AW SM l RX12 cX12_trouble 7 (some .int) 1 ki (F_X12_trouble x1 x2 x3 x4  M) 0 [some (xr 0), some (xi x1), some (xi x2), some (xi x3), some (xi x4), none, none] [] M := by
  unfold F_X12_trouble
  refine A_aload_n dX12_trouble_0 rfl ?_
  refine A_iconst (v := (0 : Int32)) dX12_trouble_1 oI_0 ?_
  refine A_puti lf_X12_180 rfl rfl dX12_trouble_2 ?_
  refine A_aload_n dX12_trouble_5 rfl ?_
  refine A_iload_n dX12_trouble_6 rfl ?_
  refine A_callVp (a_X12_isMachine (l := l) _ _ ) lc_X12_337 rfl rfl (by decide) (Nat.le_of_ble_eq_true rfl) rfl dX12_trouble_7 ?_
  refine A_if_eq (tgt := 33) dX12_trouble_10 (by decide) (fun _ => ?_) (fun _ => ?_)
  · refine A_iconst (v := (-1 : Int32)) dX12_trouble_33 oI_m1 ?_
    exact A_iret rfl dX12_trouble_34
  · refine A_aload_n dX12_trouble_13 rfl ?_
    refine A_getr lf_X12_72 rfl rfl dX12_trouble_14 ?_
    refine A_iload_n dX12_trouble_17 rfl ?_
    refine A_iald rfl dX12_trouble_18 (fun _ => ?_)
    refine A_bipush (v := (8 : Int32)) dX12_trouble_19 oB_8 ?_
    refine A_icmp_eq (tgt := 33) dX12_trouble_21 (by decide) (fun _ => ?_) (fun _ => ?_)
    · refine A_iconst (v := (-1 : Int32)) dX12_trouble_33 oI_m1 ?_
      exact A_iret rfl dX12_trouble_34
    · refine A_iload_n dX12_trouble_24 rfl ?_
      refine A_iconst (v := (0 : Int32)) dX12_trouble_25 oI_0 ?_
      refine A_iconst (v := (4 : Int32)) dX12_trouble_26 oI_4 ?_
      refine A_callSp (a_X12_isIn (l := l) _ _ _ _ ) lc_X12_196 rfl (by decide) (Nat.le_of_ble_eq_true rfl) rfl dX12_trouble_27 ?_
      refine A_if_ne (tgt := 35) dX12_trouble_30 (by decide) (fun _ => ?_) (fun _ => ?_)
      · refine A_iconst (v := (-1 : Int32)) dX12_trouble_33 oI_m1 ?_
        exact A_iret rfl dX12_trouble_34
      · refine A_iload_n dX12_trouble_35 rfl ?_
        refine A_iconst (v := (4 : Int32)) dX12_trouble_36 oI_4 ?_
        refine A_icmp_ne (tgt := 54) dX12_trouble_37 (by decide) (fun _ => ?_) (fun _ => ?_)
        · refine A_iload_n dX12_trouble_40 rfl ?_
          refine A_iconst (v := (0 : Int32)) dX12_trouble_41 oI_0 ?_
          refine A_aload_n dX12_trouble_42 rfl ?_
          refine A_geti lf_X12_189 rfl rfl dX12_trouble_43 ?_
          refine A_iconst (v := (1 : Int32)) dX12_trouble_46 oI_1 ?_
          refine A_isub dX12_trouble_47 ?_
          refine A_callSp (a_X12_isIn (l := l) _ _ _ _ ) lc_X12_196 rfl (by decide) (Nat.le_of_ble_eq_true rfl) rfl dX12_trouble_48 ?_
          refine A_goto (tgt := 124) dX12_trouble_51 (by decide) ?_
          exact (a_X12_trouble_b124 (l := l) x1 x2 x3 x4  _ _ ).sub ⟨rfl, rfl, rfl, rfl, rfl, trivial⟩
        · refine A_aload_n dX12_trouble_54 rfl ?_
          refine A_iload_n dX12_trouble_55 rfl ?_
          refine A_callVp (a_X12_isLever (l := l) _ _ ) lc_X12_343 rfl rfl (by decide) (Nat.le_of_ble_eq_true rfl) rfl dX12_trouble_56 ?_
          refine A_if_eq (tgt := 123) dX12_trouble_59 (by decide) (fun _ => ?_) (fun _ => ?_)
          · exact (a_X12_trouble_b123 (l := l) x1 x2 x3 x4   _ ).sub ⟨rfl, rfl, rfl, rfl, rfl, trivial⟩
          · refine A_iload_n dX12_trouble_62 rfl ?_
            refine A_if_ne (tgt := 79) dX12_trouble_63 (by decide) (fun _ => ?_) (fun _ => ?_)
            · refine A_iload dX12_trouble_66 rfl ?_
              refine A_iconst (v := (0 : Int32)) dX12_trouble_68 oI_0 ?_
              refine A_iconst (v := (1 : Int32)) dX12_trouble_69 oI_1 ?_
              refine A_callSp (a_X12_isIn (l := l) _ _ _ _ ) lc_X12_196 rfl (by decide) (Nat.le_of_ble_eq_true rfl) rfl dX12_trouble_70 ?_
              refine A_if_eq (tgt := 123) dX12_trouble_73 (by decide) (fun _ => ?_) (fun _ => ?_)
              · exact (a_X12_trouble_b123 (l := l) x1 x2 x3 x4   _ ).sub ⟨rfl, rfl, rfl, rfl, rfl, trivial⟩
              · refine A_goto (tgt := 119) dX12_trouble_76 (by decide) ?_
                exact (a_X12_trouble_b119 (l := l) x1 x2 x3 x4   _ ).sub ⟨rfl, rfl, rfl, rfl, rfl, trivial⟩
            · refine A_iload_n dX12_trouble_79 rfl ?_
              refine A_iconst (v := (1 : Int32)) dX12_trouble_80 oI_1 ?_
              refine A_icmp_ne (tgt := 102) dX12_trouble_81 (by decide) (fun _ => ?_) (fun _ => ?_)
              · refine A_aload_n dX12_trouble_84 rfl ?_
                refine A_iload dX12_trouble_85 rfl ?_
                refine A_callVp (a_X12_isLever (l := l) _ _ ) lc_X12_343 rfl rfl (by decide) (Nat.le_of_ble_eq_true rfl) rfl dX12_trouble_87 ?_
                refine A_if_eq (tgt := 123) dX12_trouble_90 (by decide) (fun _ => ?_) (fun _ => ?_)
                · exact (a_X12_trouble_b123 (l := l) x1 x2 x3 x4   _ ).sub ⟨rfl, rfl, rfl, rfl, rfl, trivial⟩
                · refine A_iload_n dX12_trouble_93 rfl ?_
                  refine A_iload dX12_trouble_94 rfl ?_
                  refine A_icmp_eq (tgt := 123) dX12_trouble_96 (by decide) (fun _ => ?_) (fun _ => ?_)
                  · exact (a_X12_trouble_b123 (l := l) x1 x2 x3 x4   _ ).sub ⟨rfl, rfl, rfl, rfl, rfl, trivial⟩
                  · refine A_goto (tgt := 119) dX12_trouble_99 (by decide) ?_
                    exact (a_X12_trouble_b119 (l := l) x1 x2 x3 x4   _ ).sub ⟨rfl, rfl, rfl, rfl, rfl, trivial⟩
              · refine A_iload_n dX12_trouble_102 rfl ?_
                refine A_iconst (v := (2 : Int32)) dX12_trouble_103 oI_2 ?_
                refine A_icmp_eq (tgt := 119) dX12_trouble_104 (by decide) (fun _ => ?_) (fun _ => ?_)
                · exact (a_X12_trouble_b119 (l := l) x1 x2 x3 x4   _ ).sub ⟨rfl, rfl, rfl, rfl, rfl, trivial⟩
                · refine A_iload dX12_trouble_107 rfl ?_
                  refine A_iconst (v := (1 : Int32)) dX12_trouble_109 oI_1 ?_
                  refine A_sipush (v := (999 : Int32)) dX12_trouble_110 oS_999 ?_
                  refine A_callSp (a_X12_isIn (l := l) _ _ _ _ ) lc_X12_196 rfl (by decide) (Nat.le_of_ble_eq_true rfl) rfl dX12_trouble_113 ?_
                  refine A_if_eq (tgt := 123) dX12_trouble_116 (by decide) (fun _ => ?_) (fun _ => ?_)
                  · exact (a_X12_trouble_b123 (l := l) x1 x2 x3 x4   _ ).sub ⟨rfl, rfl, rfl, rfl, rfl, trivial⟩
                  · exact (a_X12_trouble_b119 (l := l) x1 x2 x3 x4   _ ).sub ⟨rfl, rfl, rfl, rfl, rfl, trivial⟩
theorem a_X12_trouble {l : Launch}  (x1 : Int32) (x2 : Int32) (x3 : Int32) (x4 : Int32) (M : xM)  : AM SM l yX12_trouble cX12_trouble 7 (some .int) 1 ki [xr 0, xi x1, xi x2, xi x3, xi x4] M (F_X12_trouble  x1 x2 x3 x4  M) :=
  AM.of (L0 := [some (xr 0), some (xi x1), some (xi x2), some (xi x3), some (xi x4), none, none]) (w_X12_trouble (l := l) x1 x2 x3 x4  M ) (by decide +kernel) rfl (Nat.le_of_ble_eq_true rfl) ⟨rfl, rfl, rfl, rfl, rfl, trivial⟩
def F_X12_lay_b247 (fu : Nat)  (x1 : Int32) (x2 : Int32) (k56 : Int32 → xM → Option (xM)) (x3 : Int32) (M : xM) : Option (xM) :=
  k56 (x3 + (1 : Int32)) M
set_option maxRecDepth 100000 in
set_option maxHeartbeats 4000000 in
theorem a_X12_lay_b247 {l : Launch} (fu : Nat) (x1 : Int32) (x2 : Int32)  {k56 : Int32 → xM → Option (xM)} (hk56 : ∀ (b0 : Int32) (M : xM), AW SM l RX12 cX12_lay 7 none 2 kv (k56 b0 M) 56 [some (xr 0), some (xi x1), some (xi x2), some (xi b0), none, none, none] [] M) (x3 : Int32) (M : xM)  : AW SM l RX12 cX12_lay 7 none 2 kv (F_X12_lay_b247 fu x1 x2 k56 x3 M) 247 [some (xr 0), some (xi x1), some (xi x2), some (xi x3), none, none, none] [] M := by
  unfold F_X12_lay_b247
  refine A_iinc dX12_lay_247 rfl oI_1 (Nat.le_of_ble_eq_true rfl) rfl ?_
  refine A_goto (tgt := 56) dX12_lay_250 (by decide) ?_
  exact (hk56 _ _).sub ⟨rfl, rfl, rfl, rfl, trivial⟩
def F_X12_lay_b169 (fu : Nat)  (x1 : Int32) (x2 : Int32) (k56 : Int32 → xM → Option (xM)) (x3 : Int32) (s0 : Int32) (s1 : Int32) (s2 : Int32) (M : xM) : Option (xM) :=
  (if s2 < 0 ∨ 16 ≤ s2.toNatClampNeg then none else
  F_X12_lay_b247 fu x1 x2 k56 x3 (xset M 21 s2.toNatClampNeg (jmin s1 s0)))
set_option maxRecDepth 100000 in
set_option maxHeartbeats 4000000 in
theorem a_X12_lay_b169 {l : Launch} (fu : Nat) (x1 : Int32) (x2 : Int32)  {k56 : Int32 → xM → Option (xM)} (hk56 : ∀ (b0 : Int32) (M : xM), AW SM l RX12 cX12_lay 7 none 2 kv (k56 b0 M) 56 [some (xr 0), some (xi x1), some (xi x2), some (xi b0), none, none, none] [] M) (x3 : Int32) (s0 : Int32) (s1 : Int32) (s2 : Int32) (M : xM)  : AW SM l RX12 cX12_lay 7 none 2 kv (F_X12_lay_b169 fu x1 x2 k56 x3 s0 s1 s2 M) 169 [some (xr 0), some (xi x1), some (xi x2), some (xi x3), none, none, none] [xi s0, xi s1, xi s2, xr 21] M := by
  unfold F_X12_lay_b169
  refine A_jmin lc_X12_168 (by decide) (Nat.le_of_ble_eq_true rfl) dX12_lay_169 ?_
  refine A_iast rfl dX12_lay_172 (fun _ => ?_)
  refine A_goto (tgt := 247) dX12_lay_173 (by decide) ?_
  exact (a_X12_lay_b247 (l := l) fu x1 x2 hk56 _ _ ).sub ⟨rfl, rfl, rfl, rfl, trivial⟩
def F_X12_lay_b56 (fu : Nat)  (x1 : Int32) (x2 : Int32)  : Nat → Int32 → xM → Option (xM)
  | 0, _, _ => none
  | n + 1, x3, M =>
    (if x1 < 0 ∨ 6 ≤ x1.toNatClampNeg then none else
    (if (M 15 x1.toNatClampNeg) ≤ x3 then
    some M
    else
    (if (P_X12_has x2 x3 M) = 0 then
    F_X12_lay_b247 fu x1 x2 (F_X12_lay_b56 fu x1 x2 n) x3 M
    else
    (if (((8 : Int32) * x1) + x3) < 0 ∨ 48 ≤ (((8 : Int32) * x1) + x3).toNatClampNeg then none else
    (if (((8 : Int32) * x1) + x3) < 0 ∨ 48 ≤ (((8 : Int32) * x1) + x3).toNatClampNeg then none else
    (if (((8 : Int32) * x1) + x3) < 0 ∨ 48 ≤ (((8 : Int32) * x1) + x3).toNatClampNeg then none else
    (if (M 16 (((8 : Int32) * x1) + x3).toNatClampNeg) = (0 : Int32) then
    (if (M 17 (((8 : Int32) * x1) + x3).toNatClampNeg) < 0 ∨ 16 ≤ (M 17 (((8 : Int32) * x1) + x3).toNatClampNeg).toNatClampNeg then none else
    (if (M 18 (((8 : Int32) * x1) + x3).toNatClampNeg) = 0 then
    F_X12_lay_b169 fu x1 x2 (F_X12_lay_b56 fu x1 x2 n) x3 (10 : Int32) (M 21 (M 17 (((8 : Int32) * x1) + x3).toNatClampNeg).toNatClampNeg) (M 17 (((8 : Int32) * x1) + x3).toNatClampNeg) M
    else
    F_X12_lay_b169 fu x1 x2 (F_X12_lay_b56 fu x1 x2 n) x3 (100 : Int32) (M 21 (M 17 (((8 : Int32) * x1) + x3).toNatClampNeg).toNatClampNeg) (M 17 (((8 : Int32) * x1) + x3).toNatClampNeg) M))
    else
    (if (M 16 (((8 : Int32) * x1) + x3).toNatClampNeg) = (1 : Int32) then
    (if (M 17 (((8 : Int32) * x1) + x3).toNatClampNeg) < 0 ∨ 16 ≤ (M 17 (((8 : Int32) * x1) + x3).toNatClampNeg).toNatClampNeg then none else
    (if (M 18 (((8 : Int32) * x1) + x3).toNatClampNeg) < 0 ∨ 16 ≤ (M 18 (((8 : Int32) * x1) + x3).toNatClampNeg).toNatClampNeg then none else
    (if (M 17 (((8 : Int32) * x1) + x3).toNatClampNeg) < 0 ∨ 16 ≤ (M 17 (((8 : Int32) * x1) + x3).toNatClampNeg).toNatClampNeg then none else
    (if (M 18 (((8 : Int32) * x1) + x3).toNatClampNeg) < 0 ∨ 16 ≤ (M 18 (((8 : Int32) * x1) + x3).toNatClampNeg).toNatClampNeg then none else
    F_X12_lay_b247 fu x1 x2 (F_X12_lay_b56 fu x1 x2 n) x3 (xset (xset M 19 (M 17 (((8 : Int32) * x1) + x3).toNatClampNeg).toNatClampNeg (M 19 (M 18 (((8 : Int32) * x1) + x3).toNatClampNeg).toNatClampNeg)) 19 (M 18 (((8 : Int32) * x1) + x3).toNatClampNeg).toNatClampNeg (M 19 (M 17 (((8 : Int32) * x1) + x3).toNatClampNeg).toNatClampNeg))))))
    else
    (if (M 16 (((8 : Int32) * x1) + x3).toNatClampNeg) = (2 : Int32) then
    (if (M 17 (((8 : Int32) * x1) + x3).toNatClampNeg) < 0 ∨ 16 ≤ (M 17 (((8 : Int32) * x1) + x3).toNatClampNeg).toNatClampNeg then none else
    F_X12_lay_b247 fu x1 x2 (F_X12_lay_b56 fu x1 x2 n) x3 (xset M 23 (M 17 (((8 : Int32) * x1) + x3).toNatClampNeg).toNatClampNeg (vp_nar .boolean (1 : Int32))))
    else
    (if (M 16 (((8 : Int32) * x1) + x3).toNatClampNeg) = (3 : Int32) then
    (if (M 17 (((8 : Int32) * x1) + x3).toNatClampNeg) < 0 ∨ 16 ≤ (M 17 (((8 : Int32) * x1) + x3).toNatClampNeg).toNatClampNeg then none else
    F_X12_lay_b247 fu x1 x2 (F_X12_lay_b56 fu x1 x2 n) x3 (xset M 20 (M 17 (((8 : Int32) * x1) + x3).toNatClampNeg).toNatClampNeg (M 18 (((8 : Int32) * x1) + x3).toNatClampNeg)))
    else
    F_X12_lay_b247 fu x1 x2 (F_X12_lay_b56 fu x1 x2 n) x3 (xset M 0 42 ((M 0 42) ||| ((1 : Int32) <<< ((M 17 (((8 : Int32) * x1) + x3).toNatClampNeg) &&& 31))))))))))))))
set_option maxRecDepth 100000 in
set_option maxHeartbeats 4000000 in
theorem a_X12_lay_b56 {l : Launch} (fu : Nat) (x1 : Int32) (x2 : Int32)    : ∀ (n : Nat) (x3 : Int32) (M : xM), AW SM l RX12 cX12_lay 7 none 2 kv (F_X12_lay_b56 fu x1 x2 n x3 M) 56 [some (xr 0), some (xi x1), some (xi x2), some (xi x3), none, none, none] [] M := by
  intro n
  induction n with
  | zero =>
    intro x3 M
    exact AW.none
  | succ n ih =>
    intro x3 M
    rw [F_X12_lay_b56]
    refine A_iload_n dX12_lay_56 rfl ?_
    refine A_aload_n dX12_lay_57 rfl ?_
    refine A_getr lf_X12_72 rfl rfl dX12_lay_58 ?_
    refine A_iload_n dX12_lay_61 rfl ?_
    refine A_iald rfl dX12_lay_62 (fun _ => ?_)
    refine A_icmp_ge (tgt := 253) dX12_lay_63 (by decide) (fun _ => ?_) (fun _ => ?_)
    · exact A_vret rfl dX12_lay_253
    · refine A_iload_n dX12_lay_66 rfl ?_
      refine A_iload_n dX12_lay_67 rfl ?_
      refine A_callSp (a_X12_has (l := l) _ _ _ ) lc_X12_200 rfl (by decide) (Nat.le_of_ble_eq_true rfl) rfl dX12_lay_68 ?_
      refine A_if_ne (tgt := 77) dX12_lay_71 (by decide) (fun _ => ?_) (fun _ => ?_)
      · refine A_goto (tgt := 247) dX12_lay_74 (by decide) ?_
        exact (a_X12_lay_b247 (l := l) fu x1 x2 ih _ _ ).sub ⟨rfl, rfl, rfl, rfl, trivial⟩
      · refine A_aload_n dX12_lay_77 rfl ?_
        refine A_getr lf_X12_78 rfl rfl dX12_lay_78 ?_
        refine A_bipush (v := (8 : Int32)) dX12_lay_81 oB_8 ?_
        refine A_iload_n dX12_lay_83 rfl ?_
        refine A_imul dX12_lay_84 ?_
        refine A_iload_n dX12_lay_85 rfl ?_
        refine A_iadd dX12_lay_86 ?_
        refine A_iald rfl dX12_lay_87 (fun _ => ?_)
        refine A_istore dX12_lay_88 (Nat.le_of_ble_eq_true rfl) rfl ?_
        refine A_aload_n dX12_lay_90 rfl ?_
        refine A_getr lf_X12_81 rfl rfl dX12_lay_91 ?_
        refine A_bipush (v := (8 : Int32)) dX12_lay_94 oB_8 ?_
        refine A_iload_n dX12_lay_96 rfl ?_
        refine A_imul dX12_lay_97 ?_
        refine A_iload_n dX12_lay_98 rfl ?_
        refine A_iadd dX12_lay_99 ?_
        refine A_iald rfl dX12_lay_100 (fun _ => ?_)
        refine A_istore dX12_lay_101 (Nat.le_of_ble_eq_true rfl) rfl ?_
        refine A_aload_n dX12_lay_103 rfl ?_
        refine A_getr lf_X12_75 rfl rfl dX12_lay_104 ?_
        refine A_bipush (v := (8 : Int32)) dX12_lay_107 oB_8 ?_
        refine A_iload_n dX12_lay_109 rfl ?_
        refine A_imul dX12_lay_110 ?_
        refine A_iload_n dX12_lay_111 rfl ?_
        refine A_iadd dX12_lay_112 ?_
        refine A_iald rfl dX12_lay_113 (fun _ => ?_)
        refine AW.ite (fun e => ?_) (fun e0 => ?_)
        · refine A_tableIn (off := 30) (tgt := 144) dX12_lay_114 (by rw [e]; decide) (by rw [e]; decide) (by rw [e]; rfl) (by decide) ?_
          refine A_aload_n dX12_lay_144 rfl ?_
          refine A_getr lf_X12_90 rfl rfl dX12_lay_145 ?_
          refine A_iload dX12_lay_148 rfl ?_
          refine A_aload_n dX12_lay_150 rfl ?_
          refine A_getr lf_X12_90 rfl rfl dX12_lay_151 ?_
          refine A_iload dX12_lay_154 rfl ?_
          refine A_iald rfl dX12_lay_156 (fun _ => ?_)
          refine A_iload dX12_lay_157 rfl ?_
          refine A_if_ne (tgt := 167) dX12_lay_159 (by decide) (fun _ => ?_) (fun _ => ?_)
          · refine A_bipush (v := (10 : Int32)) dX12_lay_162 oB_10 ?_
            refine A_goto (tgt := 169) dX12_lay_164 (by decide) ?_
            exact (a_X12_lay_b169 (l := l) fu x1 x2 ih _ _ _ _ _ ).sub ⟨rfl, rfl, rfl, rfl, trivial⟩
          · refine A_bipush (v := (100 : Int32)) dX12_lay_167 oB_100 ?_
            exact (a_X12_lay_b169 (l := l) fu x1 x2 ih _ _ _ _ _ ).sub ⟨rfl, rfl, rfl, rfl, trivial⟩
        · refine AW.ite (fun e => ?_) (fun e1 => ?_)
          · refine A_tableIn (off := 62) (tgt := 176) dX12_lay_114 (by rw [e]; decide) (by rw [e]; decide) (by rw [e]; rfl) (by decide) ?_
            refine A_aload_n dX12_lay_176 rfl ?_
            refine A_getr lf_X12_84 rfl rfl dX12_lay_177 ?_
            refine A_iload dX12_lay_180 rfl ?_
            refine A_iald rfl dX12_lay_182 (fun _ => ?_)
            refine A_istore dX12_lay_183 (Nat.le_of_ble_eq_true rfl) rfl ?_
            refine A_aload_n dX12_lay_185 rfl ?_
            refine A_getr lf_X12_84 rfl rfl dX12_lay_186 ?_
            refine A_iload dX12_lay_189 rfl ?_
            refine A_aload_n dX12_lay_191 rfl ?_
            refine A_getr lf_X12_84 rfl rfl dX12_lay_192 ?_
            refine A_iload dX12_lay_195 rfl ?_
            refine A_iald rfl dX12_lay_197 (fun _ => ?_)
            refine A_iast rfl dX12_lay_198 (fun _ => ?_)
            refine A_aload_n dX12_lay_199 rfl ?_
            refine A_getr lf_X12_84 rfl rfl dX12_lay_200 ?_
            refine A_iload dX12_lay_203 rfl ?_
            refine A_iload dX12_lay_205 rfl ?_
            refine A_iast rfl dX12_lay_207 (fun _ => ?_)
            refine A_goto (tgt := 247) dX12_lay_208 (by decide) ?_
            exact (a_X12_lay_b247 (l := l) fu x1 x2 ih _ _ ).sub ⟨rfl, rfl, rfl, rfl, trivial⟩
          · refine AW.ite (fun e => ?_) (fun e2 => ?_)
            · refine A_tableIn (off := 97) (tgt := 211) dX12_lay_114 (by rw [e]; decide) (by rw [e]; decide) (by rw [e]; rfl) (by decide) ?_
              refine A_aload_n dX12_lay_211 rfl ?_
              refine A_getr lf_X12_96 rfl rfl dX12_lay_212 ?_
              refine A_iload dX12_lay_215 rfl ?_
              refine A_iconst (v := (1 : Int32)) dX12_lay_217 oI_1 ?_
              refine A_zast rfl dX12_lay_218 (fun _ => ?_)
              refine A_goto (tgt := 247) dX12_lay_219 (by decide) ?_
              exact (a_X12_lay_b247 (l := l) fu x1 x2 ih _ _ ).sub ⟨rfl, rfl, rfl, rfl, trivial⟩
            · refine AW.ite (fun e => ?_) (fun e3 => ?_)
              · refine A_tableIn (off := 108) (tgt := 222) dX12_lay_114 (by rw [e]; decide) (by rw [e]; decide) (by rw [e]; rfl) (by decide) ?_
                refine A_aload_n dX12_lay_222 rfl ?_
                refine A_getr lf_X12_87 rfl rfl dX12_lay_223 ?_
                refine A_iload dX12_lay_226 rfl ?_
                refine A_iload dX12_lay_228 rfl ?_
                refine A_iast rfl dX12_lay_230 (fun _ => ?_)
                refine A_goto (tgt := 247) dX12_lay_231 (by decide) ?_
                exact (a_X12_lay_b247 (l := l) fu x1 x2 ih _ _ ).sub ⟨rfl, rfl, rfl, rfl, trivial⟩
              · refine A_tableOut (tgt := 234) dX12_lay_114 (by have z0 := xne (k := 0) (by decide) e0; have z1 := xne (k := 1) (by decide) e1; have z2 := xne (k := 2) (by decide) e2; have z3 := xne (k := 3) (by decide) e3; omega) (by decide) ?_
                refine A_aload_n dX12_lay_234 rfl ?_
                refine A_dup dX12_lay_235 rfl ?_
                refine A_geti lf_X12_349 rfl rfl dX12_lay_236 ?_
                refine A_iconst (v := (1 : Int32)) dX12_lay_239 oI_1 ?_
                refine A_iload dX12_lay_240 rfl ?_
                refine A_ishl dX12_lay_242 ?_
                refine A_ior dX12_lay_243 ?_
                refine A_puti lf_X12_349 rfl rfl dX12_lay_244 ?_
                exact (a_X12_lay_b247 (l := l) fu x1 x2 ih _ _ ).sub ⟨rfl, rfl, rfl, rfl, trivial⟩
def F_X12_lay_b12 (fu : Nat)  (x1 : Int32) (x2 : Int32)  : Nat → Int32 → xM → Option (xM)
  | 0, _, _ => none
  | n + 1, x3, M =>
    (if (16 : Int32) ≤ x3 then
    F_X12_lay_b56 fu x1 x2 fu (0 : Int32) M
    else
    (if x3 < 0 ∨ 16 ≤ x3.toNatClampNeg then none else
    (if x3 < 0 ∨ 16 ≤ x3.toNatClampNeg then none else
    (if x3 < 0 ∨ 16 ≤ x3.toNatClampNeg then none else
    (if x3 < 0 ∨ 16 ≤ x3.toNatClampNeg then none else
    F_X12_lay_b12 fu x1 x2 n (x3 + (1 : Int32)) (xset (xset (xset (xset M 19 x3.toNatClampNeg x3) 20 x3.toNatClampNeg (0 : Int32)) 21 x3.toNatClampNeg (1000 : Int32)) 23 x3.toNatClampNeg (vp_nar .boolean (0 : Int32))))))))
set_option maxRecDepth 100000 in
set_option maxHeartbeats 4000000 in
theorem a_X12_lay_b12 {l : Launch} (fu : Nat) (x1 : Int32) (x2 : Int32)    : ∀ (n : Nat) (x3 : Int32) (M : xM), AW SM l RX12 cX12_lay 7 none 2 kv (F_X12_lay_b12 fu x1 x2 n x3 M) 12 [some (xr 0), some (xi x1), some (xi x2), some (xi x3), none, none, none] [] M := by
  intro n
  induction n with
  | zero =>
    intro x3 M
    exact AW.none
  | succ n ih =>
    intro x3 M
    rw [F_X12_lay_b12]
    refine A_iload_n dX12_lay_12 rfl ?_
    refine A_bipush (v := (16 : Int32)) dX12_lay_13 oB_16 ?_
    refine A_icmp_ge (tgt := 54) dX12_lay_15 (by decide) (fun _ => ?_) (fun _ => ?_)
    · refine A_iconst (v := (0 : Int32)) dX12_lay_54 oI_0 ?_
      refine A_istore_n dX12_lay_55 (Nat.le_of_ble_eq_true rfl) rfl ?_
      exact (a_X12_lay_b56 (l := l) fu x1 x2  fu _ _).sub ⟨rfl, rfl, rfl, rfl, trivial⟩
    · refine A_aload_n dX12_lay_18 rfl ?_
      refine A_getr lf_X12_84 rfl rfl dX12_lay_19 ?_
      refine A_iload_n dX12_lay_22 rfl ?_
      refine A_iload_n dX12_lay_23 rfl ?_
      refine A_iast rfl dX12_lay_24 (fun _ => ?_)
      refine A_aload_n dX12_lay_25 rfl ?_
      refine A_getr lf_X12_87 rfl rfl dX12_lay_26 ?_
      refine A_iload_n dX12_lay_29 rfl ?_
      refine A_iconst (v := (0 : Int32)) dX12_lay_30 oI_0 ?_
      refine A_iast rfl dX12_lay_31 (fun _ => ?_)
      refine A_aload_n dX12_lay_32 rfl ?_
      refine A_getr lf_X12_90 rfl rfl dX12_lay_33 ?_
      refine A_iload_n dX12_lay_36 rfl ?_
      refine A_sipush (v := (1000 : Int32)) dX12_lay_37 oS_1000 ?_
      refine A_iast rfl dX12_lay_40 (fun _ => ?_)
      refine A_aload_n dX12_lay_41 rfl ?_
      refine A_getr lf_X12_96 rfl rfl dX12_lay_42 ?_
      refine A_iload_n dX12_lay_45 rfl ?_
      refine A_iconst (v := (0 : Int32)) dX12_lay_46 oI_0 ?_
      refine A_zast rfl dX12_lay_47 (fun _ => ?_)
      refine A_iinc dX12_lay_48 rfl oI_1 (Nat.le_of_ble_eq_true rfl) rfl ?_
      refine A_goto (tgt := 12) dX12_lay_51 (by decide) ?_
      exact (ih _ _).sub ⟨rfl, rfl, rfl, rfl, trivial⟩
def F_X12_lay (fu : Nat)  (x1 : Int32) (x2 : Int32)   (M : xM) : Option (xM) :=
  F_X12_lay_b12 fu x1 x2 fu (0 : Int32) (xset (xset M 0 43 x1) 0 42 (0 : Int32))
set_option maxRecDepth 100000 in
set_option maxHeartbeats 4000000 in
theorem w_X12_lay {l : Launch} (fu : Nat) (x1 : Int32) (x2 : Int32)     (M : xM)  : AW SM l RX12 cX12_lay 7 none 2 kv (F_X12_lay fu x1 x2  M) 0 [some (xr 0), some (xi x1), some (xi x2), none, none, none, none] [] M := by
  unfold F_X12_lay
  refine A_aload_n dX12_lay_0 rfl ?_
  refine A_iload_n dX12_lay_1 rfl ?_
  refine A_puti lf_X12_346 rfl rfl dX12_lay_2 ?_
  refine A_aload_n dX12_lay_5 rfl ?_
  refine A_iconst (v := (0 : Int32)) dX12_lay_6 oI_0 ?_
  refine A_puti lf_X12_349 rfl rfl dX12_lay_7 ?_
  refine A_iconst (v := (0 : Int32)) dX12_lay_10 oI_0 ?_
  refine A_istore_n dX12_lay_11 (Nat.le_of_ble_eq_true rfl) rfl ?_
  exact (a_X12_lay_b12 (l := l) fu x1 x2  fu _ _).sub ⟨rfl, rfl, rfl, rfl, trivial⟩
theorem a_X12_lay {l : Launch} (fu : Nat)  (x1 : Int32) (x2 : Int32) (M : xM)  : AM SM l yX12_lay cX12_lay 7 none 2 kv [xr 0, xi x1, xi x2] M (F_X12_lay fu x1 x2  M) :=
  AM.of (L0 := [some (xr 0), some (xi x1), some (xi x2), none, none, none, none]) (w_X12_lay (l := l) fu x1 x2  M ) (by decide +kernel) rfl (Nat.le_of_ble_eq_true rfl) ⟨rfl, rfl, rfl, trivial⟩
def F_X12_shown_b20  (x1 : Int32) (x2 : Int32)  (s0 : Int32) (s1 : Int32) (M : xM) : Option (Int32 × xM) :=
  if (1000 : Int32) = 0 then none else
  (if x1 < 0 ∨ 16 ≤ x1.toNatClampNeg then none else
  if (M 21 x1.toNatClampNeg) = 0 then none else
  some ((((s1 + s0) - (s1 + s0) / (1000 : Int32) * (1000 : Int32)) - ((s1 + s0) - (s1 + s0) / (1000 : Int32) * (1000 : Int32)) / (M 21 x1.toNatClampNeg) * (M 21 x1.toNatClampNeg)), M))
set_option maxRecDepth 100000 in
set_option maxHeartbeats 4000000 in
theorem a_X12_shown_b20 {l : Launch} (x1 : Int32) (x2 : Int32)    (s0 : Int32) (s1 : Int32) (M : xM)  : AW SM l RX12 cX12_shown 3 (some .int) 0 ki (F_X12_shown_b20 x1 x2 s0 s1 M) 20 [some (xr 0), some (xi x1), none] [xi s0, xi s1] M := by
  unfold F_X12_shown_b20
  refine A_iadd dX12_shown_20 ?_
  refine A_sipush (v := (1000 : Int32)) dX12_shown_21 oS_1000 ?_
  refine A_irem dX12_shown_24 (fun _ => ?_)
  refine A_aload_n dX12_shown_25 rfl ?_
  refine A_getr lf_X12_90 rfl rfl dX12_shown_26 ?_
  refine A_iload_n dX12_shown_29 rfl ?_
  refine A_iald rfl dX12_shown_30 (fun _ => ?_)
  refine A_irem dX12_shown_31 (fun _ => ?_)
  exact A_iret rfl dX12_shown_32
def F_X12_shown  (x1 : Int32) (x2 : Int32)   (M : xM) : Option (Int32 × xM) :=
  (if x1 < 0 ∨ 16 ≤ x1.toNatClampNeg then none else
  (if x1 < 0 ∨ 16 ≤ x1.toNatClampNeg then none else
  (if (M 23 x1.toNatClampNeg) = 0 then
  F_X12_shown_b20 x1 x2 x2 (M 20 x1.toNatClampNeg) M
  else
  F_X12_shown_b20 x1 x2 (0 : Int32) (M 20 x1.toNatClampNeg) M)))
set_option maxRecDepth 100000 in
set_option maxHeartbeats 4000000 in
theorem w_X12_shown {l : Launch} (x1 : Int32) (x2 : Int32)     (M : xM)  : AW SM l RX12 cX12_shown 3 (some .int) 0 ki (F_X12_shown x1 x2  M) 0 [some (xr 0), some (xi x1), some (xi x2)] [] M := by
  unfold F_X12_shown
  refine A_aload_n dX12_shown_0 rfl ?_
  refine A_getr lf_X12_87 rfl rfl dX12_shown_1 ?_
  refine A_iload_n dX12_shown_4 rfl ?_
  refine A_iald rfl dX12_shown_5 (fun _ => ?_)
  refine A_aload_n dX12_shown_6 rfl ?_
  refine A_getr lf_X12_96 rfl rfl dX12_shown_7 ?_
  refine A_iload_n dX12_shown_10 rfl ?_
  refine A_zald rfl dX12_shown_11 (fun _ => ?_)
  refine A_if_eq (tgt := 19) dX12_shown_12 (by decide) (fun _ => ?_) (fun _ => ?_)
  · refine A_iload_n dX12_shown_19 rfl ?_
    exact (a_X12_shown_b20 (l := l) x1 x2  _ _ _ ).sub ⟨rfl, rfl, trivial⟩
  · refine A_iconst (v := (0 : Int32)) dX12_shown_15 oI_0 ?_
    refine A_goto (tgt := 20) dX12_shown_16 (by decide) ?_
    exact (a_X12_shown_b20 (l := l) x1 x2  _ _ _ ).sub ⟨rfl, rfl, trivial⟩
theorem a_X12_shown {l : Launch}  (x1 : Int32) (x2 : Int32) (M : xM)  : AM SM l yX12_shown cX12_shown 3 (some .int) 0 ki [xr 0, xi x1, xi x2] M (F_X12_shown  x1 x2  M) :=
  AM.of (L0 := [some (xr 0), some (xi x1), some (xi x2)]) (w_X12_shown (l := l) x1 x2  M ) (by decide +kernel) rfl (Nat.le_of_ble_eq_true rfl) ⟨rfl, rfl, rfl, trivial⟩
def F_X12_isTold  (x1 : Int32) (x2 : Int32)   (M : xM) : Option (Int32 × xM) :=
  (if x1 < 0 ∨ 16 ≤ x1.toNatClampNeg then none else
  (F_X12_shown (M 19 x1.toNatClampNeg) x2 M).bind fun q1 =>
  (if (((16 : Int32) * (q1.2 0 43)) + (M 19 x1.toNatClampNeg)) < 0 ∨ 96 ≤ (((16 : Int32) * (q1.2 0 43)) + (M 19 x1.toNatClampNeg)).toNatClampNeg then none else
  (if q1.1 = (q1.2 12 (((16 : Int32) * (q1.2 0 43)) + (M 19 x1.toNatClampNeg)).toNatClampNeg) then
  some ((1 : Int32), q1.2)
  else
  some ((0 : Int32), q1.2))))
set_option maxRecDepth 100000 in
set_option maxHeartbeats 4000000 in
theorem w_X12_isTold {l : Launch} (x1 : Int32) (x2 : Int32)     (M : xM)  : AW SM l RX12 cX12_isTold 4 (some .boolean) 1 ki (F_X12_isTold x1 x2  M) 0 [some (xr 0), some (xi x1), some (xi x2), none] [] M := by
  unfold F_X12_isTold
  refine A_aload_n dX12_isTold_0 rfl ?_
  refine A_getr lf_X12_84 rfl rfl dX12_isTold_1 ?_
  refine A_iload_n dX12_isTold_4 rfl ?_
  refine A_iald rfl dX12_isTold_5 (fun _ => ?_)
  refine A_istore_n dX12_isTold_6 (Nat.le_of_ble_eq_true rfl) rfl ?_
  refine A_aload_n dX12_isTold_7 rfl ?_
  refine A_iload_n dX12_isTold_8 rfl ?_
  refine A_iload_n dX12_isTold_9 rfl ?_
  refine A_callVi (a_X12_shown (l := l) _ _ _ ) lc_X12_352 rfl rfl (by decide) (Nat.le_of_ble_eq_true rfl) rfl dX12_isTold_10 (fun q1 Mq1 hq1 => ?_)
  refine A_aload_n dX12_isTold_13 rfl ?_
  refine A_getr lf_X12_63 rfl rfl dX12_isTold_14 ?_
  refine A_bipush (v := (16 : Int32)) dX12_isTold_17 oB_16 ?_
  refine A_aload_n dX12_isTold_19 rfl ?_
  refine A_geti lf_X12_346 rfl rfl dX12_isTold_20 ?_
  refine A_imul dX12_isTold_23 ?_
  refine A_iload_n dX12_isTold_24 rfl ?_
  refine A_iadd dX12_isTold_25 ?_
  refine A_iald rfl dX12_isTold_26 (fun _ => ?_)
  refine A_icmp_ne (tgt := 34) dX12_isTold_27 (by decide) (fun _ => ?_) (fun _ => ?_)
  · refine A_iconst (v := (1 : Int32)) dX12_isTold_30 oI_1 ?_
    refine A_goto (tgt := 35) dX12_isTold_31 (by decide) ?_
    exact A_zret' rfl (Or.inr rfl) dX12_isTold_35
  · refine A_iconst (v := (0 : Int32)) dX12_isTold_34 oI_0 ?_
    exact A_zret' rfl (Or.inl rfl) dX12_isTold_35
theorem a_X12_isTold {l : Launch}  (x1 : Int32) (x2 : Int32) (M : xM)  : AM SM l yX12_isTold cX12_isTold 4 (some .boolean) 1 ki [xr 0, xi x1, xi x2] M (F_X12_isTold  x1 x2  M) :=
  AM.of (L0 := [some (xr 0), some (xi x1), some (xi x2), none]) (w_X12_isTold (l := l) x1 x2  M ) (by decide +kernel) rfl (Nat.le_of_ble_eq_true rfl) ⟨rfl, rfl, rfl, trivial⟩
def F_X12_greatest_b9 (fu : Nat)  (x1 : Int32) (x2 : Int32)  : Nat → Int32 → xM → Option (Int32 × xM)
  | 0, _, _ => none
  | n + 1, x3, M =>
    (if x3 < 0 then
    some (x3, M)
    else
    (F_X12_isTold x1 x3 M).bind fun q1 =>
    (if q1.1 = 0 then
    F_X12_greatest_b9 fu x1 x2 n (x3 + (-1 : Int32)) q1.2
    else
    some (x3, q1.2)))
set_option maxRecDepth 100000 in
set_option maxHeartbeats 4000000 in
theorem a_X12_greatest_b9 {l : Launch} (fu : Nat) (x1 : Int32) (x2 : Int32)    : ∀ (n : Nat) (x3 : Int32) (M : xM), AW SM l RX12 cX12_greatest 4 (some .int) 2 ki (F_X12_greatest_b9 fu x1 x2 n x3 M) 9 [some (xr 0), some (xi x1), none, some (xi x3)] [] M := by
  intro n
  induction n with
  | zero =>
    intro x3 M
    exact AW.none
  | succ n ih =>
    intro x3 M
    rw [F_X12_greatest_b9]
    refine A_iload_n dX12_greatest_9 rfl ?_
    refine A_if_lt (tgt := 28) dX12_greatest_10 (by decide) (fun _ => ?_) (fun _ => ?_)
    · refine A_iload_n dX12_greatest_28 rfl ?_
      exact A_iret rfl dX12_greatest_29
    · refine A_aload_n dX12_greatest_13 rfl ?_
      refine A_iload_n dX12_greatest_14 rfl ?_
      refine A_iload_n dX12_greatest_15 rfl ?_
      refine A_callVi (a_X12_isTold (l := l) _ _ _ ) lc_X12_358 rfl rfl (by decide) (Nat.le_of_ble_eq_true rfl) rfl dX12_greatest_16 (fun q1 Mq1 hq1 => ?_)
      refine A_if_ne (tgt := 28) dX12_greatest_19 (by decide) (fun _ => ?_) (fun _ => ?_)
      · refine A_iinc dX12_greatest_22 rfl oI_m1 (Nat.le_of_ble_eq_true rfl) rfl ?_
        refine A_goto (tgt := 9) dX12_greatest_25 (by decide) ?_
        exact (ih _ _).sub ⟨rfl, rfl, rfl, trivial⟩
      · refine A_iload_n dX12_greatest_28 rfl ?_
        exact A_iret rfl dX12_greatest_29
def F_X12_greatest (fu : Nat)  (x1 : Int32) (x2 : Int32)   (M : xM) : Option (Int32 × xM) :=
  F_X12_greatest_b9 fu x1 x2 fu (jmin x2 (M 0 44)) M
set_option maxRecDepth 100000 in
set_option maxHeartbeats 4000000 in
theorem w_X12_greatest {l : Launch} (fu : Nat) (x1 : Int32) (x2 : Int32)     (M : xM)  : AW SM l RX12 cX12_greatest 4 (some .int) 2 ki (F_X12_greatest fu x1 x2  M) 0 [some (xr 0), some (xi x1), some (xi x2), none] [] M := by
  unfold F_X12_greatest
  refine A_iload_n dX12_greatest_0 rfl ?_
  refine A_aload_n dX12_greatest_1 rfl ?_
  refine A_geti lf_X12_355 rfl rfl dX12_greatest_2 ?_
  refine A_jmin lc_X12_168 (by decide) (Nat.le_of_ble_eq_true rfl) dX12_greatest_5 ?_
  refine A_istore_n dX12_greatest_8 (Nat.le_of_ble_eq_true rfl) rfl ?_
  exact (a_X12_greatest_b9 (l := l) fu x1 x2  fu _ _).sub ⟨rfl, rfl, rfl, trivial⟩
theorem a_X12_greatest {l : Launch} (fu : Nat)  (x1 : Int32) (x2 : Int32) (M : xM)  : AM SM l yX12_greatest cX12_greatest 4 (some .int) 2 ki [xr 0, xi x1, xi x2] M (F_X12_greatest fu x1 x2  M) :=
  AM.of (L0 := [some (xr 0), some (xi x1), some (xi x2), none]) (w_X12_greatest (l := l) fu x1 x2  M ) (by decide +kernel) rfl (Nat.le_of_ble_eq_true rfl) ⟨rfl, rfl, rfl, trivial⟩
def F_X12_sumOfLeast_b33 (fu : Nat)  (x1 : Int32) (k4 : Int32 → Int32 → xM → Option (Int32 × xM)) (x3 : Int32) (s0 : Int32) (s1 : Int32) (M : xM) : Option (Int32 × xM) :=
  k4 (s1 + s0) (x3 + (1 : Int32)) M
set_option maxRecDepth 100000 in
set_option maxHeartbeats 4000000 in
theorem a_X12_sumOfLeast_b33 {l : Launch} (fu : Nat) (x1 : Int32)  {k4 : Int32 → Int32 → xM → Option (Int32 × xM)} (hk4 : ∀ (b0 : Int32) (b1 : Int32) (M : xM), AW SM l RX12 cX12_sumOfLeast 4 (some .int) 0 ki (k4 b0 b1 M) 4 [some (xr 0), some (xi x1), some (xi b0), some (xi b1)] [] M) (x3 : Int32) (s0 : Int32) (s1 : Int32) (M : xM)  : AW SM l RX12 cX12_sumOfLeast 4 (some .int) 0 ki (F_X12_sumOfLeast_b33 fu x1 k4 x3 s0 s1 M) 33 [some (xr 0), some (xi x1), none, some (xi x3)] [xi s0, xi s1] M := by
  unfold F_X12_sumOfLeast_b33
  refine A_iadd dX12_sumOfLeast_33 ?_
  refine A_istore_n dX12_sumOfLeast_34 (Nat.le_of_ble_eq_true rfl) rfl ?_
  refine A_iinc dX12_sumOfLeast_35 rfl oI_1 (Nat.le_of_ble_eq_true rfl) rfl ?_
  refine A_goto (tgt := 4) dX12_sumOfLeast_38 (by decide) ?_
  exact (hk4 _ _ _).sub ⟨rfl, rfl, rfl, rfl, trivial⟩
def F_X12_sumOfLeast_b4 (fu : Nat)  (x1 : Int32)  : Nat → Int32 → Int32 → xM → Option (Int32 × xM)
  | 0, _, _, _ => none
  | n + 1, x2, x3, M =>
    (if (M 0 1) ≤ x3 then
    some (x2, M)
    else
    (if x3 < 0 ∨ 16 ≤ x3.toNatClampNeg then none else
    (if (M 3 x3.toNatClampNeg) = x1 then
    (if x3 < 0 ∨ 16 ≤ x3.toNatClampNeg then none else
    F_X12_sumOfLeast_b33 fu x1 (F_X12_sumOfLeast_b4 fu x1 n) x3 (M 22 x3.toNatClampNeg) x2 M)
    else
    F_X12_sumOfLeast_b33 fu x1 (F_X12_sumOfLeast_b4 fu x1 n) x3 (0 : Int32) x2 M)))
set_option maxRecDepth 100000 in
set_option maxHeartbeats 4000000 in
theorem a_X12_sumOfLeast_b4 {l : Launch} (fu : Nat) (x1 : Int32)    : ∀ (n : Nat) (x2 : Int32) (x3 : Int32) (M : xM), AW SM l RX12 cX12_sumOfLeast 4 (some .int) 0 ki (F_X12_sumOfLeast_b4 fu x1 n x2 x3 M) 4 [some (xr 0), some (xi x1), some (xi x2), some (xi x3)] [] M := by
  intro n
  induction n with
  | zero =>
    intro x2 x3 M
    exact AW.none
  | succ n ih =>
    intro x2 x3 M
    rw [F_X12_sumOfLeast_b4]
    refine A_iload_n dX12_sumOfLeast_4 rfl ?_
    refine A_aload_n dX12_sumOfLeast_5 rfl ?_
    refine A_geti lf_X12_177 rfl rfl dX12_sumOfLeast_6 ?_
    refine A_icmp_ge (tgt := 41) dX12_sumOfLeast_9 (by decide) (fun _ => ?_) (fun _ => ?_)
    · refine A_iload_n dX12_sumOfLeast_41 rfl ?_
      exact A_iret rfl dX12_sumOfLeast_42
    · refine A_iload_n dX12_sumOfLeast_12 rfl ?_
      refine A_aload_n dX12_sumOfLeast_13 rfl ?_
      refine A_getr lf_X12_16 rfl rfl dX12_sumOfLeast_14 ?_
      refine A_iload_n dX12_sumOfLeast_17 rfl ?_
      refine A_iald rfl dX12_sumOfLeast_18 (fun _ => ?_)
      refine A_iload_n dX12_sumOfLeast_19 rfl ?_
      refine A_icmp_ne (tgt := 32) dX12_sumOfLeast_20 (by decide) (fun _ => ?_) (fun _ => ?_)
      · refine A_aload_n dX12_sumOfLeast_23 rfl ?_
        refine A_getr lf_X12_93 rfl rfl dX12_sumOfLeast_24 ?_
        refine A_iload_n dX12_sumOfLeast_27 rfl ?_
        refine A_iald rfl dX12_sumOfLeast_28 (fun _ => ?_)
        refine A_goto (tgt := 33) dX12_sumOfLeast_29 (by decide) ?_
        exact (a_X12_sumOfLeast_b33 (l := l) fu x1 ih _ _ _ _ ).sub ⟨rfl, rfl, rfl, trivial⟩
      · refine A_iconst (v := (0 : Int32)) dX12_sumOfLeast_32 oI_0 ?_
        exact (a_X12_sumOfLeast_b33 (l := l) fu x1 ih _ _ _ _ ).sub ⟨rfl, rfl, rfl, trivial⟩
def F_X12_sumOfLeast (fu : Nat)  (x1 : Int32)   (M : xM) : Option (Int32 × xM) :=
  F_X12_sumOfLeast_b4 fu x1 fu (0 : Int32) (0 : Int32) M
set_option maxRecDepth 100000 in
set_option maxHeartbeats 4000000 in
theorem w_X12_sumOfLeast {l : Launch} (fu : Nat) (x1 : Int32)     (M : xM)  : AW SM l RX12 cX12_sumOfLeast 4 (some .int) 0 ki (F_X12_sumOfLeast fu x1  M) 0 [some (xr 0), some (xi x1), none, none] [] M := by
  unfold F_X12_sumOfLeast
  refine A_iconst (v := (0 : Int32)) dX12_sumOfLeast_0 oI_0 ?_
  refine A_istore_n dX12_sumOfLeast_1 (Nat.le_of_ble_eq_true rfl) rfl ?_
  refine A_iconst (v := (0 : Int32)) dX12_sumOfLeast_2 oI_0 ?_
  refine A_istore_n dX12_sumOfLeast_3 (Nat.le_of_ble_eq_true rfl) rfl ?_
  exact (a_X12_sumOfLeast_b4 (l := l) fu x1  fu _ _ _).sub ⟨rfl, rfl, rfl, rfl, trivial⟩
theorem a_X12_sumOfLeast {l : Launch} (fu : Nat)  (x1 : Int32) (M : xM)  : AM SM l yX12_sumOfLeast cX12_sumOfLeast 4 (some .int) 0 ki [xr 0, xi x1] M (F_X12_sumOfLeast fu x1  M) :=
  AM.of (L0 := [some (xr 0), some (xi x1), none, none]) (w_X12_sumOfLeast (l := l) fu x1  M ) (by decide +kernel) rfl (Nat.le_of_ble_eq_true rfl) ⟨rfl, rfl, trivial⟩
def F_X12_boundOf  (x1 : Int32)   (M : xM) : Option (Int32 × xM) :=
  (if (P_X12_has (M 0 42) x1 M) = 0 then
  (if x1 < 0 ∨ 6 ≤ x1.toNatClampNeg then none else
  some (((M 2 x1.toNatClampNeg) * (M 0 44)), M))
  else
  some ((1000000 : Int32), M))
set_option maxRecDepth 100000 in
set_option maxHeartbeats 4000000 in
theorem w_X12_boundOf {l : Launch} (x1 : Int32)     (M : xM)  : AW SM l RX12 cX12_boundOf 2 (some .int) 1 ki (F_X12_boundOf x1  M) 0 [some (xr 0), some (xi x1)] [] M := by
  unfold F_X12_boundOf
  refine A_aload_n dX12_boundOf_0 rfl ?_
  refine A_geti lf_X12_349 rfl rfl dX12_boundOf_1 ?_
  refine A_iload_n dX12_boundOf_4 rfl ?_
  refine A_callSp (a_X12_has (l := l) _ _ _ ) lc_X12_200 rfl (by decide) (Nat.le_of_ble_eq_true rfl) rfl dX12_boundOf_5 ?_
  refine A_if_eq (tgt := 17) dX12_boundOf_8 (by decide) (fun _ => ?_) (fun _ => ?_)
  · refine A_aload_n dX12_boundOf_17 rfl ?_
    refine A_getr lf_X12_13 rfl rfl dX12_boundOf_18 ?_
    refine A_iload_n dX12_boundOf_21 rfl ?_
    refine A_iald rfl dX12_boundOf_22 (fun _ => ?_)
    refine A_aload_n dX12_boundOf_23 rfl ?_
    refine A_geti lf_X12_355 rfl rfl dX12_boundOf_24 ?_
    refine A_imul dX12_boundOf_27 ?_
    exact A_iret rfl dX12_boundOf_28
  · refine A_ldcw (v := (1000000 : Int32)) dX12_boundOf_11 lk_X12_361 ?_
    refine A_goto (tgt := 28) dX12_boundOf_14 (by decide) ?_
    exact A_iret rfl dX12_boundOf_28
theorem a_X12_boundOf {l : Launch}  (x1 : Int32) (M : xM)  : AM SM l yX12_boundOf cX12_boundOf 2 (some .int) 1 ki [xr 0, xi x1] M (F_X12_boundOf  x1  M) :=
  AM.of (L0 := [some (xr 0), some (xi x1)]) (w_X12_boundOf (l := l) x1  M ) (by decide +kernel) rfl (Nat.le_of_ble_eq_true rfl) ⟨rfl, rfl, trivial⟩
def F_X12_fits_b104 (fu : Nat)  (x1 : Int32) (x2 : Int32) (k21 : Int32 → xM → Option (Int32 × xM)) (x3 : Int32) (M : xM) : Option (Int32 × xM) :=
  k21 (x3 + (1 : Int32)) M
set_option maxRecDepth 100000 in
set_option maxHeartbeats 4000000 in
theorem a_X12_fits_b104 {l : Launch} (fu : Nat) (x1 : Int32) (x2 : Int32)  {k21 : Int32 → xM → Option (Int32 × xM)} (hk21 : ∀ (b0 : Int32) (M : xM), AW SM l RX12 cX12_fits 4 (some .boolean) 76 ki (k21 b0 M) 21 [some (xr 0), none, none, some (xi b0)] [] M) (x3 : Int32) (M : xM)  : AW SM l RX12 cX12_fits 4 (some .boolean) 76 ki (F_X12_fits_b104 fu x1 x2 k21 x3 M) 104 [some (xr 0), none, none, some (xi x3)] [] M := by
  unfold F_X12_fits_b104
  refine A_iinc dX12_fits_104 rfl oI_1 (Nat.le_of_ble_eq_true rfl) rfl ?_
  refine A_goto (tgt := 21) dX12_fits_107 (by decide) ?_
  exact (hk21 _ _).sub ⟨rfl, rfl, trivial⟩
def F_X12_fits_b89 (fu : Nat)  (x1 : Int32) (x2 : Int32) (k21 : Int32 → xM → Option (Int32 × xM)) (x3 : Int32) (M : xM) : Option (Int32 × xM) :=
  (if x3 < 0 ∨ 16 ≤ x3.toNatClampNeg then none else
  (if (M 22 x3.toNatClampNeg) ≤ (M 0 44) then
  F_X12_fits_b104 fu x1 x2 k21 x3 M
  else
  some ((0 : Int32), M)))
set_option maxRecDepth 100000 in
set_option maxHeartbeats 4000000 in
theorem a_X12_fits_b89 {l : Launch} (fu : Nat) (x1 : Int32) (x2 : Int32)  {k21 : Int32 → xM → Option (Int32 × xM)} (hk21 : ∀ (b0 : Int32) (M : xM), AW SM l RX12 cX12_fits 4 (some .boolean) 76 ki (k21 b0 M) 21 [some (xr 0), none, none, some (xi b0)] [] M) (x3 : Int32) (M : xM)  : AW SM l RX12 cX12_fits 4 (some .boolean) 76 ki (F_X12_fits_b89 fu x1 x2 k21 x3 M) 89 [some (xr 0), none, none, some (xi x3)] [] M := by
  unfold F_X12_fits_b89
  refine A_aload_n dX12_fits_89 rfl ?_
  refine A_getr lf_X12_93 rfl rfl dX12_fits_90 ?_
  refine A_iload_n dX12_fits_93 rfl ?_
  refine A_iald rfl dX12_fits_94 (fun _ => ?_)
  refine A_aload_n dX12_fits_95 rfl ?_
  refine A_geti lf_X12_355 rfl rfl dX12_fits_96 ?_
  refine A_icmp_le (tgt := 104) dX12_fits_99 (by decide) (fun _ => ?_) (fun _ => ?_)
  · exact (a_X12_fits_b104 (l := l) fu x1 x2 hk21 _ _ ).sub ⟨rfl, rfl, trivial⟩
  · refine A_iconst (v := (0 : Int32)) dX12_fits_102 oI_0 ?_
    exact A_zret' rfl (Or.inl rfl) dX12_fits_103
def F_X12_fits_b49 (fu : Nat)  (x1 : Int32) (x2 : Int32) (k21 : Int32 → xM → Option (Int32 × xM)) : Nat → Int32 → xM → Option (Int32 × xM)
  | 0, _, _ => none
  | n + 1, x3, M =>
    (if x3 < 0 ∨ 16 ≤ x3.toNatClampNeg then none else
    (if (M 0 44) < (M 22 x3.toNatClampNeg) then
    F_X12_fits_b89 fu x1 x2 k21 x3 M
    else
    (if x3 < 0 ∨ 16 ≤ x3.toNatClampNeg then none else
    (F_X12_isTold x3 (M 22 x3.toNatClampNeg) M).bind fun q1 =>
    (if q1.1 = 0 then
    (if x3 < 0 ∨ 16 ≤ x3.toNatClampNeg then none else
    (if x3 < 0 ∨ 16 ≤ x3.toNatClampNeg then none else
    F_X12_fits_b49 fu x1 x2 k21 n x3 (xset q1.2 22 x3.toNatClampNeg ((q1.2 22 x3.toNatClampNeg) + (1 : Int32)))))
    else
    F_X12_fits_b89 fu x1 x2 k21 x3 q1.2))))
set_option maxRecDepth 100000 in
set_option maxHeartbeats 4000000 in
theorem a_X12_fits_b49 {l : Launch} (fu : Nat) (x1 : Int32) (x2 : Int32)  {k21 : Int32 → xM → Option (Int32 × xM)} (hk21 : ∀ (b0 : Int32) (M : xM), AW SM l RX12 cX12_fits 4 (some .boolean) 76 ki (k21 b0 M) 21 [some (xr 0), none, none, some (xi b0)] [] M) : ∀ (n : Nat) (x3 : Int32) (M : xM), AW SM l RX12 cX12_fits 4 (some .boolean) 76 ki (F_X12_fits_b49 fu x1 x2 k21 n x3 M) 49 [some (xr 0), none, none, some (xi x3)] [] M := by
  intro n
  induction n with
  | zero =>
    intro x3 M
    exact AW.none
  | succ n ih =>
    intro x3 M
    rw [F_X12_fits_b49]
    refine A_aload_n dX12_fits_49 rfl ?_
    refine A_getr lf_X12_93 rfl rfl dX12_fits_50 ?_
    refine A_iload_n dX12_fits_53 rfl ?_
    refine A_iald rfl dX12_fits_54 (fun _ => ?_)
    refine A_aload_n dX12_fits_55 rfl ?_
    refine A_geti lf_X12_355 rfl rfl dX12_fits_56 ?_
    refine A_icmp_gt (tgt := 89) dX12_fits_59 (by decide) (fun _ => ?_) (fun _ => ?_)
    · exact (a_X12_fits_b89 (l := l) fu x1 x2 hk21 _ _ ).sub ⟨rfl, rfl, trivial⟩
    · refine A_aload_n dX12_fits_62 rfl ?_
      refine A_iload_n dX12_fits_63 rfl ?_
      refine A_aload_n dX12_fits_64 rfl ?_
      refine A_getr lf_X12_93 rfl rfl dX12_fits_65 ?_
      refine A_iload_n dX12_fits_68 rfl ?_
      refine A_iald rfl dX12_fits_69 (fun _ => ?_)
      refine A_callVi (a_X12_isTold (l := l) _ _ _ ) lc_X12_358 rfl rfl (by decide) (Nat.le_of_ble_eq_true rfl) rfl dX12_fits_70 (fun q1 Mq1 hq1 => ?_)
      refine A_if_ne (tgt := 89) dX12_fits_73 (by decide) (fun _ => ?_) (fun _ => ?_)
      · refine A_aload_n dX12_fits_76 rfl ?_
        refine A_getr lf_X12_93 rfl rfl dX12_fits_77 ?_
        refine A_iload_n dX12_fits_80 rfl ?_
        refine A_dup2 dX12_fits_81 rfl rfl ?_
        refine A_iald rfl dX12_fits_82 (fun _ => ?_)
        refine A_iconst (v := (1 : Int32)) dX12_fits_83 oI_1 ?_
        refine A_iadd dX12_fits_84 ?_
        refine A_iast rfl dX12_fits_85 (fun _ => ?_)
        refine A_goto (tgt := 49) dX12_fits_86 (by decide) ?_
        exact (ih _ _).sub ⟨rfl, rfl, trivial⟩
      · exact (a_X12_fits_b89 (l := l) fu x1 x2 hk21 _ _ ).sub ⟨rfl, rfl, trivial⟩
def F_X12_fits_b112 (fu : Nat)  (x1 : Int32) (x2 : Int32)  : Nat → Int32 → xM → Option (Int32 × xM)
  | 0, _, _ => none
  | n + 1, x3, M =>
    (if (M 0 7) ≤ x3 then
    some ((1 : Int32), M)
    else
    (F_X12_sumOfLeast fu x3 M).bind fun q1 =>
    (F_X12_boundOf x3 q1.2).bind fun q2 =>
    (if q1.1 ≤ q2.1 then
    F_X12_fits_b112 fu x1 x2 n (x3 + (1 : Int32)) q2.2
    else
    some ((0 : Int32), q2.2)))
set_option maxRecDepth 100000 in
set_option maxHeartbeats 4000000 in
theorem a_X12_fits_b112 {l : Launch} (fu : Nat) (x1 : Int32) (x2 : Int32)    : ∀ (n : Nat) (x3 : Int32) (M : xM), AW SM l RX12 cX12_fits 4 (some .boolean) 76 ki (F_X12_fits_b112 fu x1 x2 n x3 M) 112 [some (xr 0), none, none, some (xi x3)] [] M := by
  intro n
  induction n with
  | zero =>
    intro x3 M
    exact AW.none
  | succ n ih =>
    intro x3 M
    rw [F_X12_fits_b112]
    refine A_iload_n dX12_fits_112 rfl ?_
    refine A_aload_n dX12_fits_113 rfl ?_
    refine A_geti lf_X12_189 rfl rfl dX12_fits_114 ?_
    refine A_icmp_ge (tgt := 141) dX12_fits_117 (by decide) (fun _ => ?_) (fun _ => ?_)
    · refine A_iconst (v := (1 : Int32)) dX12_fits_141 oI_1 ?_
      exact A_zret' rfl (Or.inr rfl) dX12_fits_142
    · refine A_aload_n dX12_fits_120 rfl ?_
      refine A_iload_n dX12_fits_121 rfl ?_
      refine A_callVi (a_X12_sumOfLeast (l := l) fu _ _ ) lc_X12_366 rfl rfl (by decide) (Nat.le_of_ble_eq_true rfl) rfl dX12_fits_122 (fun q1 Mq1 hq1 => ?_)
      refine A_aload_n dX12_fits_125 rfl ?_
      refine A_iload_n dX12_fits_126 rfl ?_
      refine A_callVi (a_X12_boundOf (l := l) _ _ ) lc_X12_369 rfl rfl (by decide) (Nat.le_of_ble_eq_true rfl) rfl dX12_fits_127 (fun q2 Mq2 hq2 => ?_)
      refine A_icmp_le (tgt := 135) dX12_fits_130 (by decide) (fun _ => ?_) (fun _ => ?_)
      · refine A_iinc dX12_fits_135 rfl oI_1 (Nat.le_of_ble_eq_true rfl) rfl ?_
        refine A_goto (tgt := 112) dX12_fits_138 (by decide) ?_
        exact (ih _ _).sub ⟨rfl, rfl, trivial⟩
      · refine A_iconst (v := (0 : Int32)) dX12_fits_133 oI_0 ?_
        exact A_zret' rfl (Or.inl rfl) dX12_fits_134
def F_X12_fits_b21 (fu : Nat)  (x1 : Int32) (x2 : Int32)  : Nat → Int32 → xM → Option (Int32 × xM)
  | 0, _, _ => none
  | n + 1, x3, M =>
    (if (M 0 1) ≤ x3 then
    F_X12_fits_b112 fu x1 x2 fu (0 : Int32) M
    else
    (if x3 < 0 ∨ 16 ≤ x3.toNatClampNeg then none else
    (if (M 3 x3.toNatClampNeg) = (-1 : Int32) then
    F_X12_fits_b104 fu x1 x2 (F_X12_fits_b21 fu x1 x2 n) x3 M
    else
    (if x3 < 0 ∨ 16 ≤ x3.toNatClampNeg then none else
    F_X12_fits_b49 fu x1 x2 (F_X12_fits_b21 fu x1 x2 n) fu x3 (xset M 22 x3.toNatClampNeg (0 : Int32))))))
set_option maxRecDepth 100000 in
set_option maxHeartbeats 4000000 in
theorem a_X12_fits_b21 {l : Launch} (fu : Nat) (x1 : Int32) (x2 : Int32)    : ∀ (n : Nat) (x3 : Int32) (M : xM), AW SM l RX12 cX12_fits 4 (some .boolean) 76 ki (F_X12_fits_b21 fu x1 x2 n x3 M) 21 [some (xr 0), none, none, some (xi x3)] [] M := by
  intro n
  induction n with
  | zero =>
    intro x3 M
    exact AW.none
  | succ n ih =>
    intro x3 M
    rw [F_X12_fits_b21]
    refine A_iload_n dX12_fits_21 rfl ?_
    refine A_aload_n dX12_fits_22 rfl ?_
    refine A_geti lf_X12_177 rfl rfl dX12_fits_23 ?_
    refine A_icmp_ge (tgt := 110) dX12_fits_26 (by decide) (fun _ => ?_) (fun _ => ?_)
    · refine A_iconst (v := (0 : Int32)) dX12_fits_110 oI_0 ?_
      refine A_istore_n dX12_fits_111 (Nat.le_of_ble_eq_true rfl) rfl ?_
      exact (a_X12_fits_b112 (l := l) fu x1 x2  fu _ _).sub ⟨rfl, rfl, trivial⟩
    · refine A_aload_n dX12_fits_29 rfl ?_
      refine A_getr lf_X12_16 rfl rfl dX12_fits_30 ?_
      refine A_iload_n dX12_fits_33 rfl ?_
      refine A_iald rfl dX12_fits_34 (fun _ => ?_)
      refine A_iconst (v := (-1 : Int32)) dX12_fits_35 oI_m1 ?_
      refine A_icmp_ne (tgt := 42) dX12_fits_36 (by decide) (fun _ => ?_) (fun _ => ?_)
      · refine A_goto (tgt := 104) dX12_fits_39 (by decide) ?_
        exact (a_X12_fits_b104 (l := l) fu x1 x2 ih _ _ ).sub ⟨rfl, rfl, trivial⟩
      · refine A_aload_n dX12_fits_42 rfl ?_
        refine A_getr lf_X12_93 rfl rfl dX12_fits_43 ?_
        refine A_iload_n dX12_fits_46 rfl ?_
        refine A_iconst (v := (0 : Int32)) dX12_fits_47 oI_0 ?_
        refine A_iast rfl dX12_fits_48 (fun _ => ?_)
        exact (a_X12_fits_b49 (l := l) fu x1 x2 ih fu _ _).sub ⟨rfl, rfl, trivial⟩
def F_X12_fits (fu : Nat)  (x1 : Int32) (x2 : Int32)   (M : xM) : Option (Int32 × xM) :=
  (F_X12_lay fu x1 x2 M).bind fun q1 =>
  (F_X12_votersBy fu x1 (q1 0 17) q1).bind fun q2 =>
  F_X12_fits_b21 fu x1 x2 fu (0 : Int32) (xset q2.2 0 44 q2.1)
set_option maxRecDepth 100000 in
set_option maxHeartbeats 4000000 in
theorem w_X12_fits {l : Launch} (fu : Nat) (x1 : Int32) (x2 : Int32)     (M : xM)  : AW SM l RX12 cX12_fits 4 (some .boolean) 76 ki (F_X12_fits fu x1 x2  M) 0 [some (xr 0), some (xi x1), some (xi x2), none] [] M := by
  unfold F_X12_fits
  refine A_aload_n dX12_fits_0 rfl ?_
  refine A_iload_n dX12_fits_1 rfl ?_
  refine A_iload_n dX12_fits_2 rfl ?_
  refine A_callVv (a_X12_lay (l := l) fu _ _ _ ) lc_X12_362 rfl rfl (by decide) (Nat.le_of_ble_eq_true rfl) rfl dX12_fits_3 (fun q1 hq1 => ?_)
  refine A_aload_n dX12_fits_6 rfl ?_
  refine A_aload_n dX12_fits_7 rfl ?_
  refine A_iload_n dX12_fits_8 rfl ?_
  refine A_aload_n dX12_fits_9 rfl ?_
  refine A_geti lf_X12_45 rfl rfl dX12_fits_10 ?_
  refine A_callVi (a_X12_votersBy (l := l) fu _ _ _ ) lc_X12_340 rfl rfl (by decide) (Nat.le_of_ble_eq_true rfl) rfl dX12_fits_13 (fun q2 Mq2 hq2 => ?_)
  refine A_puti lf_X12_355 rfl rfl dX12_fits_16 ?_
  refine A_iconst (v := (0 : Int32)) dX12_fits_19 oI_0 ?_
  refine A_istore_n dX12_fits_20 (Nat.le_of_ble_eq_true rfl) rfl ?_
  exact (a_X12_fits_b21 (l := l) fu x1 x2  fu _ _).sub ⟨rfl, rfl, trivial⟩
theorem a_X12_fits {l : Launch} (fu : Nat)  (x1 : Int32) (x2 : Int32) (M : xM)  : AM SM l yX12_fits cX12_fits 4 (some .boolean) 76 ki [xr 0, xi x1, xi x2] M (F_X12_fits fu x1 x2  M) :=
  AM.of (L0 := [some (xr 0), some (xi x1), some (xi x2), none]) (w_X12_fits (l := l) fu x1 x2  M ) (by decide +kernel) rfl (Nat.le_of_ble_eq_true rfl) ⟨rfl, rfl, rfl, trivial⟩
def F_X12_fitting_b57 (fu : Nat)  (x1 : Int32) (x2 : Int32) (k20 : Int32 → Int32 → xM → Option (Int32 × xM)) (x3 : Int32) (x4 : Int32) (M : xM) : Option (Int32 × xM) :=
  k20 x3 (x4 + (1 : Int32)) M
set_option maxRecDepth 100000 in
set_option maxHeartbeats 4000000 in
theorem a_X12_fitting_b57 {l : Launch} (fu : Nat) (x1 : Int32) (x2 : Int32)  {k20 : Int32 → Int32 → xM → Option (Int32 × xM)} (hk20 : ∀ (b0 : Int32) (b1 : Int32) (M : xM), AW SM l RX12 cX12_fitting 5 (some .int) 77 ki (k20 b0 b1 M) 20 [some (xr 0), some (xi x1), some (xi x2), some (xi b0), some (xi b1)] [] M) (x3 : Int32) (x4 : Int32) (M : xM)  : AW SM l RX12 cX12_fitting 5 (some .int) 77 ki (F_X12_fitting_b57 fu x1 x2 k20 x3 x4 M) 57 [some (xr 0), some (xi x1), some (xi x2), some (xi x3), some (xi x4)] [] M := by
  unfold F_X12_fitting_b57
  refine A_iinc dX12_fitting_57 rfl oI_1 (Nat.le_of_ble_eq_true rfl) rfl ?_
  refine A_goto (tgt := 20) dX12_fitting_60 (by decide) ?_
  exact (hk20 _ _ _).sub ⟨rfl, rfl, rfl, rfl, rfl, trivial⟩
def F_X12_fitting_b20 (fu : Nat)  (x1 : Int32) (x2 : Int32)  : Nat → Int32 → Int32 → xM → Option (Int32 × xM)
  | 0, _, _, _ => none
  | n + 1, x3, x4, M =>
    (if x1 < 0 ∨ 6 ≤ x1.toNatClampNeg then none else
    (if ((1 : Int32) <<< ((M 15 x1.toNatClampNeg) &&& 31)) ≤ x4 then
    (if x2 = (-1 : Int32) then
    some (x3, M)
    else
    some ((-1 : Int32), M))
    else
    (F_X12_fits fu x1 x4 M).bind fun q1 =>
    (if q1.1 = 0 then
    F_X12_fitting_b57 fu x1 x2 (F_X12_fitting_b20 fu x1 x2 n) x3 x4 q1.2
    else
    (if x3 = x2 then
    some (x4, q1.2)
    else
    F_X12_fitting_b57 fu x1 x2 (F_X12_fitting_b20 fu x1 x2 n) (x3 + (1 : Int32)) x4 q1.2))))
set_option maxRecDepth 100000 in
set_option maxHeartbeats 4000000 in
theorem a_X12_fitting_b20 {l : Launch} (fu : Nat) (x1 : Int32) (x2 : Int32)    : ∀ (n : Nat) (x3 : Int32) (x4 : Int32) (M : xM), AW SM l RX12 cX12_fitting 5 (some .int) 77 ki (F_X12_fitting_b20 fu x1 x2 n x3 x4 M) 20 [some (xr 0), some (xi x1), some (xi x2), some (xi x3), some (xi x4)] [] M := by
  intro n
  induction n with
  | zero =>
    intro x3 x4 M
    exact AW.none
  | succ n ih =>
    intro x3 x4 M
    rw [F_X12_fitting_b20]
    refine A_iload dX12_fitting_20 rfl ?_
    refine A_iconst (v := (1 : Int32)) dX12_fitting_22 oI_1 ?_
    refine A_aload_n dX12_fitting_23 rfl ?_
    refine A_getr lf_X12_72 rfl rfl dX12_fitting_24 ?_
    refine A_iload_n dX12_fitting_27 rfl ?_
    refine A_iald rfl dX12_fitting_28 (fun _ => ?_)
    refine A_ishl dX12_fitting_29 ?_
    refine A_icmp_ge (tgt := 63) dX12_fitting_30 (by decide) (fun _ => ?_) (fun _ => ?_)
    · refine A_iload_n dX12_fitting_63 rfl ?_
      refine A_iconst (v := (-1 : Int32)) dX12_fitting_64 oI_m1 ?_
      refine A_icmp_ne (tgt := 72) dX12_fitting_65 (by decide) (fun _ => ?_) (fun _ => ?_)
      · refine A_iload_n dX12_fitting_68 rfl ?_
        refine A_goto (tgt := 73) dX12_fitting_69 (by decide) ?_
        exact A_iret rfl dX12_fitting_73
      · refine A_iconst (v := (-1 : Int32)) dX12_fitting_72 oI_m1 ?_
        exact A_iret rfl dX12_fitting_73
    · refine A_aload_n dX12_fitting_33 rfl ?_
      refine A_iload_n dX12_fitting_34 rfl ?_
      refine A_iload dX12_fitting_35 rfl ?_
      refine A_callVi (a_X12_fits (l := l) fu _ _ _ ) lc_X12_372 rfl rfl (by decide) (Nat.le_of_ble_eq_true rfl) rfl dX12_fitting_37 (fun q1 Mq1 hq1 => ?_)
      refine A_if_ne (tgt := 46) dX12_fitting_40 (by decide) (fun _ => ?_) (fun _ => ?_)
      · refine A_goto (tgt := 57) dX12_fitting_43 (by decide) ?_
        exact (a_X12_fitting_b57 (l := l) fu x1 x2 ih _ _ _ ).sub ⟨rfl, rfl, rfl, rfl, rfl, trivial⟩
      · refine A_iload_n dX12_fitting_46 rfl ?_
        refine A_iload_n dX12_fitting_47 rfl ?_
        refine A_icmp_ne (tgt := 54) dX12_fitting_48 (by decide) (fun _ => ?_) (fun _ => ?_)
        · refine A_iload dX12_fitting_51 rfl ?_
          exact A_iret rfl dX12_fitting_53
        · refine A_iinc dX12_fitting_54 rfl oI_1 (Nat.le_of_ble_eq_true rfl) rfl ?_
          exact (a_X12_fitting_b57 (l := l) fu x1 x2 ih _ _ _ ).sub ⟨rfl, rfl, rfl, rfl, rfl, trivial⟩
def F_X12_fitting (fu : Nat)  (x1 : Int32) (x2 : Int32)   (M : xM) : Option (Int32 × xM) :=
  (if (P_X12_isMachine x1 (xset M 0 0 (0 : Int32))) = 0 then
  some ((-1 : Int32), (xset M 0 0 (0 : Int32)))
  else
  F_X12_fitting_b20 fu x1 x2 fu (0 : Int32) (0 : Int32) (xset M 0 0 (0 : Int32)))
set_option maxRecDepth 100000 in
set_option maxHeartbeats 4000000 in
theorem w_X12_fitting {l : Launch} (fu : Nat) (x1 : Int32) (x2 : Int32)     (M : xM)  : AW SM l RX12 cX12_fitting 5 (some .int) 77 ki (F_X12_fitting fu x1 x2  M) 0 [some (xr 0), some (xi x1), some (xi x2), none, none] [] M := by
  unfold F_X12_fitting
  refine A_aload_n dX12_fitting_0 rfl ?_
  refine A_iconst (v := (0 : Int32)) dX12_fitting_1 oI_0 ?_
  refine A_puti lf_X12_180 rfl rfl dX12_fitting_2 ?_
  refine A_aload_n dX12_fitting_5 rfl ?_
  refine A_iload_n dX12_fitting_6 rfl ?_
  refine A_callVp (a_X12_isMachine (l := l) _ _ ) lc_X12_337 rfl rfl (by decide) (Nat.le_of_ble_eq_true rfl) rfl dX12_fitting_7 ?_
  refine A_if_ne (tgt := 15) dX12_fitting_10 (by decide) (fun _ => ?_) (fun _ => ?_)
  · refine A_iconst (v := (-1 : Int32)) dX12_fitting_13 oI_m1 ?_
    exact A_iret rfl dX12_fitting_14
  · refine A_iconst (v := (0 : Int32)) dX12_fitting_15 oI_0 ?_
    refine A_istore_n dX12_fitting_16 (Nat.le_of_ble_eq_true rfl) rfl ?_
    refine A_iconst (v := (0 : Int32)) dX12_fitting_17 oI_0 ?_
    refine A_istore dX12_fitting_18 (Nat.le_of_ble_eq_true rfl) rfl ?_
    exact (a_X12_fitting_b20 (l := l) fu x1 x2  fu _ _ _).sub ⟨rfl, rfl, rfl, rfl, rfl, trivial⟩
theorem a_X12_fitting {l : Launch} (fu : Nat)  (x1 : Int32) (x2 : Int32) (M : xM)  : AM SM l yX12_fitting cX12_fitting 5 (some .int) 77 ki [xr 0, xi x1, xi x2] M (F_X12_fitting fu x1 x2  M) :=
  AM.of (L0 := [some (xr 0), some (xi x1), some (xi x2), none, none]) (w_X12_fitting (l := l) fu x1 x2  M ) (by decide +kernel) rfl (Nat.le_of_ble_eq_true rfl) ⟨rfl, rfl, rfl, trivial⟩
def F_X12_fewestOf_b40 (fu : Nat)  (x1 : Int32) (k4 : Int32 → Int32 → xM → Option (Int32 × xM)) (x2 : Int32) (x3 : Int32) (M : xM) : Option (Int32 × xM) :=
  k4 x2 (x3 + (1 : Int32)) M
set_option maxRecDepth 100000 in
set_option maxHeartbeats 4000000 in
theorem a_X12_fewestOf_b40 {l : Launch} (fu : Nat) (x1 : Int32)  {k4 : Int32 → Int32 → xM → Option (Int32 × xM)} (hk4 : ∀ (b0 : Int32) (b1 : Int32) (M : xM), AW SM l RX12 cX12_fewestOf 4 (some .int) 77 ki (k4 b0 b1 M) 4 [some (xr 0), some (xi x1), some (xi b0), some (xi b1)] [] M) (x2 : Int32) (x3 : Int32) (M : xM)  : AW SM l RX12 cX12_fewestOf 4 (some .int) 77 ki (F_X12_fewestOf_b40 fu x1 k4 x2 x3 M) 40 [some (xr 0), some (xi x1), some (xi x2), some (xi x3)] [] M := by
  unfold F_X12_fewestOf_b40
  refine A_iinc dX12_fewestOf_40 rfl oI_1 (Nat.le_of_ble_eq_true rfl) rfl ?_
  refine A_goto (tgt := 4) dX12_fewestOf_43 (by decide) ?_
  exact (hk4 _ _ _).sub ⟨rfl, rfl, rfl, rfl, trivial⟩
def F_X12_fewestOf_b29 (fu : Nat)  (x1 : Int32) (k4 : Int32 → Int32 → xM → Option (Int32 × xM)) (x2 : Int32) (x3 : Int32) (M : xM) : Option (Int32 × xM) :=
  (F_X12_fits fu x1 x3 M).bind fun q1 =>
  (if q1.1 = 0 then
  F_X12_fewestOf_b40 fu x1 k4 x2 x3 q1.2
  else
  F_X12_fewestOf_b40 fu x1 k4 x3 x3 q1.2)
set_option maxRecDepth 100000 in
set_option maxHeartbeats 4000000 in
theorem a_X12_fewestOf_b29 {l : Launch} (fu : Nat) (x1 : Int32)  {k4 : Int32 → Int32 → xM → Option (Int32 × xM)} (hk4 : ∀ (b0 : Int32) (b1 : Int32) (M : xM), AW SM l RX12 cX12_fewestOf 4 (some .int) 77 ki (k4 b0 b1 M) 4 [some (xr 0), some (xi x1), some (xi b0), some (xi b1)] [] M) (x2 : Int32) (x3 : Int32) (M : xM)  : AW SM l RX12 cX12_fewestOf 4 (some .int) 77 ki (F_X12_fewestOf_b29 fu x1 k4 x2 x3 M) 29 [some (xr 0), some (xi x1), some (xi x2), some (xi x3)] [] M := by
  unfold F_X12_fewestOf_b29
  refine A_aload_n dX12_fewestOf_29 rfl ?_
  refine A_iload_n dX12_fewestOf_30 rfl ?_
  refine A_iload_n dX12_fewestOf_31 rfl ?_
  refine A_callVi (a_X12_fits (l := l) fu _ _ _ ) lc_X12_372 rfl rfl (by decide) (Nat.le_of_ble_eq_true rfl) rfl dX12_fewestOf_32 (fun q1 Mq1 hq1 => ?_)
  refine A_if_eq (tgt := 40) dX12_fewestOf_35 (by decide) (fun _ => ?_) (fun _ => ?_)
  · exact (a_X12_fewestOf_b40 (l := l) fu x1 hk4 _ _ _ ).sub ⟨rfl, rfl, rfl, rfl, trivial⟩
  · refine A_iload_n dX12_fewestOf_38 rfl ?_
    refine A_istore_n dX12_fewestOf_39 (Nat.le_of_ble_eq_true rfl) rfl ?_
    exact (a_X12_fewestOf_b40 (l := l) fu x1 hk4 _ _ _ ).sub ⟨rfl, rfl, rfl, rfl, trivial⟩
def F_X12_fewestOf_b4 (fu : Nat)  (x1 : Int32)  : Nat → Int32 → Int32 → xM → Option (Int32 × xM)
  | 0, _, _, _ => none
  | n + 1, x2, x3, M =>
    (if x1 < 0 ∨ 6 ≤ x1.toNatClampNeg then none else
    (if ((1 : Int32) <<< ((M 15 x1.toNatClampNeg) &&& 31)) ≤ x3 then
    some (x2, M)
    else
    (if x2 = (-1 : Int32) then
    F_X12_fewestOf_b29 fu x1 (F_X12_fewestOf_b4 fu x1 n) x2 x3 M
    else
    (if (P_X12_isBefore x3 x2 M) = 0 then
    F_X12_fewestOf_b40 fu x1 (F_X12_fewestOf_b4 fu x1 n) x2 x3 M
    else
    F_X12_fewestOf_b29 fu x1 (F_X12_fewestOf_b4 fu x1 n) x2 x3 M))))
set_option maxRecDepth 100000 in
set_option maxHeartbeats 4000000 in
theorem a_X12_fewestOf_b4 {l : Launch} (fu : Nat) (x1 : Int32)    : ∀ (n : Nat) (x2 : Int32) (x3 : Int32) (M : xM), AW SM l RX12 cX12_fewestOf 4 (some .int) 77 ki (F_X12_fewestOf_b4 fu x1 n x2 x3 M) 4 [some (xr 0), some (xi x1), some (xi x2), some (xi x3)] [] M := by
  intro n
  induction n with
  | zero =>
    intro x2 x3 M
    exact AW.none
  | succ n ih =>
    intro x2 x3 M
    rw [F_X12_fewestOf_b4]
    refine A_iload_n dX12_fewestOf_4 rfl ?_
    refine A_iconst (v := (1 : Int32)) dX12_fewestOf_5 oI_1 ?_
    refine A_aload_n dX12_fewestOf_6 rfl ?_
    refine A_getr lf_X12_72 rfl rfl dX12_fewestOf_7 ?_
    refine A_iload_n dX12_fewestOf_10 rfl ?_
    refine A_iald rfl dX12_fewestOf_11 (fun _ => ?_)
    refine A_ishl dX12_fewestOf_12 ?_
    refine A_icmp_ge (tgt := 46) dX12_fewestOf_13 (by decide) (fun _ => ?_) (fun _ => ?_)
    · refine A_iload_n dX12_fewestOf_46 rfl ?_
      exact A_iret rfl dX12_fewestOf_47
    · refine A_iload_n dX12_fewestOf_16 rfl ?_
      refine A_iconst (v := (-1 : Int32)) dX12_fewestOf_17 oI_m1 ?_
      refine A_icmp_eq (tgt := 29) dX12_fewestOf_18 (by decide) (fun _ => ?_) (fun _ => ?_)
      · exact (a_X12_fewestOf_b29 (l := l) fu x1 ih _ _ _ ).sub ⟨rfl, rfl, rfl, rfl, trivial⟩
      · refine A_iload_n dX12_fewestOf_21 rfl ?_
        refine A_iload_n dX12_fewestOf_22 rfl ?_
        refine A_callSp (a_X12_isBefore (l := l) _ _ _ ) lc_X12_213 rfl (by decide) (Nat.le_of_ble_eq_true rfl) rfl dX12_fewestOf_23 ?_
        refine A_if_eq (tgt := 40) dX12_fewestOf_26 (by decide) (fun _ => ?_) (fun _ => ?_)
        · exact (a_X12_fewestOf_b40 (l := l) fu x1 ih _ _ _ ).sub ⟨rfl, rfl, rfl, rfl, trivial⟩
        · exact (a_X12_fewestOf_b29 (l := l) fu x1 ih _ _ _ ).sub ⟨rfl, rfl, rfl, rfl, trivial⟩
def F_X12_fewestOf (fu : Nat)  (x1 : Int32)   (M : xM) : Option (Int32 × xM) :=
  F_X12_fewestOf_b4 fu x1 fu (-1 : Int32) (0 : Int32) M
set_option maxRecDepth 100000 in
set_option maxHeartbeats 4000000 in
theorem w_X12_fewestOf {l : Launch} (fu : Nat) (x1 : Int32)     (M : xM)  : AW SM l RX12 cX12_fewestOf 4 (some .int) 77 ki (F_X12_fewestOf fu x1  M) 0 [some (xr 0), some (xi x1), none, none] [] M := by
  unfold F_X12_fewestOf
  refine A_iconst (v := (-1 : Int32)) dX12_fewestOf_0 oI_m1 ?_
  refine A_istore_n dX12_fewestOf_1 (Nat.le_of_ble_eq_true rfl) rfl ?_
  refine A_iconst (v := (0 : Int32)) dX12_fewestOf_2 oI_0 ?_
  refine A_istore_n dX12_fewestOf_3 (Nat.le_of_ble_eq_true rfl) rfl ?_
  exact (a_X12_fewestOf_b4 (l := l) fu x1  fu _ _ _).sub ⟨rfl, rfl, rfl, rfl, trivial⟩
theorem a_X12_fewestOf {l : Launch} (fu : Nat)  (x1 : Int32) (M : xM)  : AM SM l yX12_fewestOf cX12_fewestOf 4 (some .int) 77 ki [xr 0, xi x1] M (F_X12_fewestOf fu x1  M) :=
  AM.of (L0 := [some (xr 0), some (xi x1), none, none]) (w_X12_fewestOf (l := l) fu x1  M ) (by decide +kernel) rfl (Nat.le_of_ble_eq_true rfl) ⟨rfl, rfl, trivial⟩
def F_X12_sets_b95 (fu : Nat)  (x1 : Int32) (x2 : Int32) (k54 : Int32 → Int32 → Int32 → Int32 → xM → Option (Int32 × xM)) (x3 : Int32) (x4 : Int32) (x5 : Int32) (x6 : Int32) (M : xM) : Option (Int32 × xM) :=
  k54 x3 x4 x5 (x6 + (1 : Int32)) M
set_option maxRecDepth 100000 in
set_option maxHeartbeats 4000000 in
theorem a_X12_sets_b95 {l : Launch} (fu : Nat) (x1 : Int32) (x2 : Int32)  {k54 : Int32 → Int32 → Int32 → Int32 → xM → Option (Int32 × xM)} (hk54 : ∀ (b0 : Int32) (b1 : Int32) (b2 : Int32) (b3 : Int32) (M : xM), AW SM l RX12 cX12_sets 7 (some .int) 78 ki (k54 b0 b1 b2 b3 M) 54 [some (xr 0), some (xi x1), some (xi x2), some (xi b0), some (xi b1), some (xi b2), some (xi b3)] [] M) (x3 : Int32) (x4 : Int32) (x5 : Int32) (x6 : Int32) (M : xM)  : AW SM l RX12 cX12_sets 7 (some .int) 78 ki (F_X12_sets_b95 fu x1 x2 k54 x3 x4 x5 x6 M) 95 [some (xr 0), some (xi x1), some (xi x2), some (xi x3), some (xi x4), some (xi x5), some (xi x6)] [] M := by
  unfold F_X12_sets_b95
  refine A_iinc dX12_sets_95 rfl oI_1 (Nat.le_of_ble_eq_true rfl) rfl ?_
  refine A_goto (tgt := 54) dX12_sets_98 (by decide) ?_
  exact (hk54 _ _ _ _ _).sub ⟨rfl, rfl, rfl, rfl, rfl, rfl, rfl, trivial⟩
def F_X12_sets_b54 (fu : Nat)  (x1 : Int32) (x2 : Int32)  : Nat → Int32 → Int32 → Int32 → Int32 → xM → Option (Int32 × xM)
  | 0, _, _, _, _, _ => none
  | n + 1, x3, x4, x5, x6, M =>
    (if x1 < 0 ∨ 6 ≤ x1.toNatClampNeg then none else
    (if ((1 : Int32) <<< ((M 15 x1.toNatClampNeg) &&& 31)) ≤ x6 then
    (if x5 = 0 then
    some ((-1 : Int32), M)
    else
    (if x2 = (1 : Int32) then
    some (x3, M)
    else
    some (x4, M)))
    else
    (F_X12_fits fu x1 x6 M).bind fun q1 =>
    (if q1.1 = 0 then
    F_X12_sets_b95 fu x1 x2 (F_X12_sets_b54 fu x1 x2 n) x3 x4 x5 x6 q1.2
    else
    F_X12_sets_b95 fu x1 x2 (F_X12_sets_b54 fu x1 x2 n) (x3 &&& x6) (x4 ||| x6) (1 : Int32) x6 q1.2)))
set_option maxRecDepth 100000 in
set_option maxHeartbeats 4000000 in
theorem a_X12_sets_b54 {l : Launch} (fu : Nat) (x1 : Int32) (x2 : Int32)    : ∀ (n : Nat) (x3 : Int32) (x4 : Int32) (x5 : Int32) (x6 : Int32) (M : xM), AW SM l RX12 cX12_sets 7 (some .int) 78 ki (F_X12_sets_b54 fu x1 x2 n x3 x4 x5 x6 M) 54 [some (xr 0), some (xi x1), some (xi x2), some (xi x3), some (xi x4), some (xi x5), some (xi x6)] [] M := by
  intro n
  induction n with
  | zero =>
    intro x3 x4 x5 x6 M
    exact AW.none
  | succ n ih =>
    intro x3 x4 x5 x6 M
    rw [F_X12_sets_b54]
    refine A_iload dX12_sets_54 rfl ?_
    refine A_iconst (v := (1 : Int32)) dX12_sets_56 oI_1 ?_
    refine A_aload_n dX12_sets_57 rfl ?_
    refine A_getr lf_X12_72 rfl rfl dX12_sets_58 ?_
    refine A_iload_n dX12_sets_61 rfl ?_
    refine A_iald rfl dX12_sets_62 (fun _ => ?_)
    refine A_ishl dX12_sets_63 ?_
    refine A_icmp_ge (tgt := 101) dX12_sets_64 (by decide) (fun _ => ?_) (fun _ => ?_)
    · refine A_iload dX12_sets_101 rfl ?_
      refine A_if_ne (tgt := 110) dX12_sets_103 (by decide) (fun _ => ?_) (fun _ => ?_)
      · refine A_iconst (v := (-1 : Int32)) dX12_sets_106 oI_m1 ?_
        refine A_goto (tgt := 121) dX12_sets_107 (by decide) ?_
        exact A_iret rfl dX12_sets_121
      · refine A_iload_n dX12_sets_110 rfl ?_
        refine A_iconst (v := (1 : Int32)) dX12_sets_111 oI_1 ?_
        refine A_icmp_ne (tgt := 119) dX12_sets_112 (by decide) (fun _ => ?_) (fun _ => ?_)
        · refine A_iload_n dX12_sets_115 rfl ?_
          refine A_goto (tgt := 121) dX12_sets_116 (by decide) ?_
          exact A_iret rfl dX12_sets_121
        · refine A_iload dX12_sets_119 rfl ?_
          exact A_iret rfl dX12_sets_121
    · refine A_aload_n dX12_sets_67 rfl ?_
      refine A_iload_n dX12_sets_68 rfl ?_
      refine A_iload dX12_sets_69 rfl ?_
      refine A_callVi (a_X12_fits (l := l) fu _ _ _ ) lc_X12_372 rfl rfl (by decide) (Nat.le_of_ble_eq_true rfl) rfl dX12_sets_71 (fun q1 Mq1 hq1 => ?_)
      refine A_if_ne (tgt := 80) dX12_sets_74 (by decide) (fun _ => ?_) (fun _ => ?_)
      · refine A_goto (tgt := 95) dX12_sets_77 (by decide) ?_
        exact (a_X12_sets_b95 (l := l) fu x1 x2 ih _ _ _ _ _ ).sub ⟨rfl, rfl, rfl, rfl, rfl, rfl, rfl, trivial⟩
      · refine A_iconst (v := (1 : Int32)) dX12_sets_80 oI_1 ?_
        refine A_istore dX12_sets_81 (Nat.le_of_ble_eq_true rfl) rfl ?_
        refine A_iload_n dX12_sets_83 rfl ?_
        refine A_iload dX12_sets_84 rfl ?_
        refine A_iand dX12_sets_86 ?_
        refine A_istore_n dX12_sets_87 (Nat.le_of_ble_eq_true rfl) rfl ?_
        refine A_iload dX12_sets_88 rfl ?_
        refine A_iload dX12_sets_90 rfl ?_
        refine A_ior dX12_sets_92 ?_
        refine A_istore dX12_sets_93 (Nat.le_of_ble_eq_true rfl) rfl ?_
        exact (a_X12_sets_b95 (l := l) fu x1 x2 ih _ _ _ _ _ ).sub ⟨rfl, rfl, rfl, rfl, rfl, rfl, rfl, trivial⟩
def F_X12_sets (fu : Nat)  (x1 : Int32) (x2 : Int32)   (M : xM) : Option (Int32 × xM) :=
  (if (P_X12_isMachine x1 (xset M 0 0 (0 : Int32))) = 0 then
  some ((-1 : Int32), (xset M 0 0 (0 : Int32)))
  else
  (if (P_X12_isIn x2 (0 : Int32) (2 : Int32) (xset M 0 0 (0 : Int32))) = 0 then
  some ((-1 : Int32), (xset M 0 0 (0 : Int32)))
  else
  (if x2 = 0 then
  (F_X12_fewestOf fu x1 (xset M 0 0 (0 : Int32))).bind fun q1 =>
  some (q1.1, q1.2)
  else
  (if x1 < 0 ∨ 6 ≤ x1.toNatClampNeg then none else
  F_X12_sets_b54 fu x1 x2 fu (((1 : Int32) <<< (((xset M 0 0 (0 : Int32)) 15 x1.toNatClampNeg) &&& 31)) - (1 : Int32)) (0 : Int32) (0 : Int32) (0 : Int32) (xset M 0 0 (0 : Int32))))))
set_option maxRecDepth 100000 in
set_option maxHeartbeats 4000000 in
theorem w_X12_sets {l : Launch} (fu : Nat) (x1 : Int32) (x2 : Int32)     (M : xM)  : AW SM l RX12 cX12_sets 7 (some .int) 78 ki (F_X12_sets fu x1 x2  M) 0 [some (xr 0), some (xi x1), some (xi x2), none, none, none, none] [] M := by
  unfold F_X12_sets
  refine A_aload_n dX12_sets_0 rfl ?_
  refine A_iconst (v := (0 : Int32)) dX12_sets_1 oI_0 ?_
  refine A_puti lf_X12_180 rfl rfl dX12_sets_2 ?_
  refine A_aload_n dX12_sets_5 rfl ?_
  refine A_iload_n dX12_sets_6 rfl ?_
  refine A_callVp (a_X12_isMachine (l := l) _ _ ) lc_X12_337 rfl rfl (by decide) (Nat.le_of_ble_eq_true rfl) rfl dX12_sets_7 ?_
  refine A_if_eq (tgt := 22) dX12_sets_10 (by decide) (fun _ => ?_) (fun _ => ?_)
  · refine A_iconst (v := (-1 : Int32)) dX12_sets_22 oI_m1 ?_
    exact A_iret rfl dX12_sets_23
  · refine A_iload_n dX12_sets_13 rfl ?_
    refine A_iconst (v := (0 : Int32)) dX12_sets_14 oI_0 ?_
    refine A_iconst (v := (2 : Int32)) dX12_sets_15 oI_2 ?_
    refine A_callSp (a_X12_isIn (l := l) _ _ _ _ ) lc_X12_196 rfl (by decide) (Nat.le_of_ble_eq_true rfl) rfl dX12_sets_16 ?_
    refine A_if_ne (tgt := 24) dX12_sets_19 (by decide) (fun _ => ?_) (fun _ => ?_)
    · refine A_iconst (v := (-1 : Int32)) dX12_sets_22 oI_m1 ?_
      exact A_iret rfl dX12_sets_23
    · refine A_iload_n dX12_sets_24 rfl ?_
      refine A_if_ne (tgt := 34) dX12_sets_25 (by decide) (fun _ => ?_) (fun _ => ?_)
      · refine A_aload_n dX12_sets_28 rfl ?_
        refine A_iload_n dX12_sets_29 rfl ?_
        refine A_callVi (a_X12_fewestOf (l := l) fu _ _ ) lc_X12_375 rfl rfl (by decide) (Nat.le_of_ble_eq_true rfl) rfl dX12_sets_30 (fun q1 Mq1 hq1 => ?_)
        exact A_iret rfl dX12_sets_33
      · refine A_iconst (v := (1 : Int32)) dX12_sets_34 oI_1 ?_
        refine A_aload_n dX12_sets_35 rfl ?_
        refine A_getr lf_X12_72 rfl rfl dX12_sets_36 ?_
        refine A_iload_n dX12_sets_39 rfl ?_
        refine A_iald rfl dX12_sets_40 (fun _ => ?_)
        refine A_ishl dX12_sets_41 ?_
        refine A_iconst (v := (1 : Int32)) dX12_sets_42 oI_1 ?_
        refine A_isub dX12_sets_43 ?_
        refine A_istore_n dX12_sets_44 (Nat.le_of_ble_eq_true rfl) rfl ?_
        refine A_iconst (v := (0 : Int32)) dX12_sets_45 oI_0 ?_
        refine A_istore dX12_sets_46 (Nat.le_of_ble_eq_true rfl) rfl ?_
        refine A_iconst (v := (0 : Int32)) dX12_sets_48 oI_0 ?_
        refine A_istore dX12_sets_49 (Nat.le_of_ble_eq_true rfl) rfl ?_
        refine A_iconst (v := (0 : Int32)) dX12_sets_51 oI_0 ?_
        refine A_istore dX12_sets_52 (Nat.le_of_ble_eq_true rfl) rfl ?_
        exact (a_X12_sets_b54 (l := l) fu x1 x2  fu _ _ _ _ _).sub ⟨rfl, rfl, rfl, rfl, rfl, rfl, rfl, trivial⟩
theorem a_X12_sets {l : Launch} (fu : Nat)  (x1 : Int32) (x2 : Int32) (M : xM)  : AM SM l yX12_sets cX12_sets 7 (some .int) 78 ki [xr 0, xi x1, xi x2] M (F_X12_sets fu x1 x2  M) :=
  AM.of (L0 := [some (xr 0), some (xi x1), some (xi x2), none, none, none, none]) (w_X12_sets (l := l) fu x1 x2  M ) (by decide +kernel) rfl (Nat.le_of_ble_eq_true rfl) ⟨rfl, rfl, rfl, trivial⟩
