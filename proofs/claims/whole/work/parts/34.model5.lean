theorem lk_X12_441 : Jvm.Cond.constantLong RX12 441 (6364136223846793005) ∈ lw_g := lw_gm 2027 (by decide +kernel) rfl
theorem lk_X12_443 : Jvm.Cond.constantLong RX12 443 (1442695040888963407) ∈ lw_g := lw_gm 2028 (by decide +kernel) rfl
theorem lf_X12_105 : xfl RX12 105 11 47 (tyX12 47) true := ⟨_, _, _, _, xc_X12, by decide, rfl, rfl, rfl, lw_gm 1460 (by decide +kernel) rfl⟩
theorem lf_X12_108 : xfl RX12 108 11 48 (tyX12 48) true := ⟨_, _, _, _, xc_X12, by decide, rfl, rfl, rfl, lw_gm 1461 (by decide +kernel) rfl⟩
theorem lf_X12_111 : xfl RX12 111 11 50 (tyX12 50) true := ⟨_, _, _, _, xc_X12, by decide, rfl, rfl, rfl, lw_gm 1463 (by decide +kernel) rfl⟩
theorem lf_X12_114 : xfl RX12 114 11 51 (tyX12 51) true := ⟨_, _, _, _, xc_X12, by decide, rfl, rfl, rfl, lw_gm 1464 (by decide +kernel) rfl⟩
theorem lf_X12_117 : xfl RX12 117 11 52 (tyX12 52) true := ⟨_, _, _, _, xc_X12, by decide, rfl, rfl, rfl, lw_gm 1465 (by decide +kernel) rfl⟩
theorem lf_X12_120 : xfl RX12 120 11 54 (tyX12 54) true := ⟨_, _, _, _, xc_X12, by decide, rfl, rfl, rfl, lw_gm 1467 (by decide +kernel) rfl⟩
theorem lf_X12_123 : xfl RX12 123 11 55 (tyX12 55) true := ⟨_, _, _, _, xc_X12, by decide, rfl, rfl, rfl, lw_gm 1468 (by decide +kernel) rfl⟩
theorem lf_X12_126 : xfl RX12 126 11 56 (tyX12 56) true := ⟨_, _, _, _, xc_X12, by decide, rfl, rfl, rfl, lw_gm 1469 (by decide +kernel) rfl⟩
theorem lf_X12_129 : xfl RX12 129 11 57 (tyX12 57) true := ⟨_, _, _, _, xc_X12, by decide, rfl, rfl, rfl, lw_gm 1470 (by decide +kernel) rfl⟩
theorem lf_X12_420 : xfl RX12 420 11 49 (tyX12 49) false := ⟨_, _, _, _, xc_X12, by decide, rfl, rfl, rfl, lw_gm 1462 (by decide +kernel) rfl⟩
theorem lf_X12_438 : xfl RX12 438 11 53 (tyX12 53) false := ⟨_, _, _, _, xc_X12, by decide, rfl, rfl, rfl, lw_gm 1466 (by decide +kernel) rfl⟩
theorem lf_X12_452 : xfl RX12 452 11 58 (tyX12 58) false := ⟨_, _, _, _, xc_X12, by decide, rfl, rfl, rfl, lw_gm 1471 (by decide +kernel) rfl⟩
theorem lc_X12_423 : xlV RX12 423 yX12_isLetNow cX12_isLetNow 5 (some .boolean) 1 11 := ⟨⟨lw_gm 2007 (by decide +kernel) rfl, lw_gm 117 (by decide +kernel) rfl, lw_gm 2010 (by decide +kernel) rfl, ⟨by decide, by decide, by decide +kernel⟩, by decide⟩, lw_gm 2009 (by decide +kernel) rfl, lw_gm 84 (by decide +kernel) rfl, _, _, rfl⟩
theorem lc_X12_426 : xlV RX12 426 yX12_behind cX12_behind 5 (some .int) 2 11 := ⟨⟨lw_gm 2003 (by decide +kernel) rfl, lw_gm 117 (by decide +kernel) rfl, lw_gm 2006 (by decide +kernel) rfl, ⟨by decide, by decide, by decide +kernel⟩, by decide⟩, lw_gm 2005 (by decide +kernel) rfl, lw_gm 83 (by decide +kernel) rfl, _, _, rfl⟩
theorem lc_X12_429 : xlV RX12 429 yX12_seesOne cX12_seesOne 5 (some .boolean) 3 11 := ⟨⟨lw_gm 1999 (by decide +kernel) rfl, lw_gm 117 (by decide +kernel) rfl, lw_gm 2002 (by decide +kernel) rfl, ⟨by decide, by decide, by decide +kernel⟩, by decide⟩, lw_gm 2001 (by decide +kernel) rfl, lw_gm 82 (by decide +kernel) rfl, _, _, rfl⟩
theorem lc_X12_432 : xlV RX12 432 yX12_seesOf cX12_seesOf 5 (some .int) 2 11 := ⟨⟨lw_gm 1995 (by decide +kernel) rfl, lw_gm 117 (by decide +kernel) rfl, lw_gm 1998 (by decide +kernel) rfl, ⟨by decide, by decide, by decide +kernel⟩, by decide⟩, lw_gm 1997 (by decide +kernel) rfl, lw_gm 81 (by decide +kernel) rfl, _, _, rfl⟩
theorem lc_X12_435 : xlV RX12 435 yX12_seenBy cX12_seenBy 4 (some .int) 1 11 := ⟨⟨lw_gm 2015 (by decide +kernel) rfl, lw_gm 117 (by decide +kernel) rfl, lw_gm 2018 (by decide +kernel) rfl, ⟨by decide, by decide, by decide +kernel⟩, by decide⟩, lw_gm 2017 (by decide +kernel) rfl, lw_gm 85 (by decide +kernel) rfl, _, _, rfl⟩
theorem lc_X12_445 : xlV RX12 445 yX12_layNames cX12_layNames 9 none 2 11 := ⟨⟨lw_gm 2023 (by decide +kernel) rfl, lw_gm 117 (by decide +kernel) rfl, lw_gm 2026 (by decide +kernel) rfl, ⟨by decide, by decide, by decide +kernel⟩, by decide⟩, lw_gm 2025 (by decide +kernel) rfl, lw_gm 86 (by decide +kernel) rfl, _, _, rfl⟩
theorem lc_X12_449 : xlV RX12 449 yX12_nameAt cX12_nameAt 3 (some .int) 2 11 := ⟨⟨lw_gm 2029 (by decide +kernel) rfl, lw_gm 117 (by decide +kernel) rfl, lw_gm 2032 (by decide +kernel) rfl, ⟨by decide, by decide, by decide +kernel⟩, by decide⟩, lw_gm 2031 (by decide +kernel) rfl, lw_gm 87 (by decide +kernel) rfl, _, _, rfl⟩
theorem lc_X12_455 : xlV RX12 455 yX12_isText cX12_isText 3 (some .boolean) 1 11 := ⟨⟨lw_gm 2041 (by decide +kernel) rfl, lw_gm 117 (by decide +kernel) rfl, lw_gm 2044 (by decide +kernel) rfl, ⟨by decide, by decide, by decide +kernel⟩, by decide⟩, lw_gm 2043 (by decide +kernel) rfl, lw_gm 88 (by decide +kernel) rfl, _, _, rfl⟩
theorem lc_X12_459 : xlV RX12 459 yX12_isTapeName cX12_isTapeName 3 (some .boolean) 1 11 := ⟨⟨lw_gm 2045 (by decide +kernel) rfl, lw_gm 117 (by decide +kernel) rfl, lw_gm 2048 (by decide +kernel) rfl, ⟨by decide, by decide, by decide +kernel⟩, by decide⟩, lw_gm 2047 (by decide +kernel) rfl, lw_gm 89 (by decide +kernel) rfl, _, _, rfl⟩
theorem lc_X12_462 : xlS RX12 462 yX12_isPaper cX12_isPaper 1 (some .boolean) 1 := ⟨⟨lw_gm 2053 (by decide +kernel) rfl, lw_gm 117 (by decide +kernel) rfl, lw_gm 2055 (by decide +kernel) rfl, ⟨by decide, by decide, by decide +kernel⟩, by decide⟩, lw_gm 2054 (by decide +kernel) rfl⟩
def F_X12_test  (x1 : Int32) (x2 : Int32)   (M : xM) : Option (Int32 × xM) :=
  (if ((xset M 0 0 (0 : Int32)) 0 49) = (8 : Int32) then
  some ((-1 : Int32), (xset M 0 0 (0 : Int32)))
  else
  (if (P_X12_isRow x1 (xset M 0 0 (0 : Int32))) = 0 then
  some ((-1 : Int32), (xset M 0 0 (0 : Int32)))
  else
  (if (P_X12_isIn x2 (0 : Int32) (200 : Int32) (xset M 0 0 (0 : Int32))) = 0 then
  some ((-1 : Int32), (xset M 0 0 (0 : Int32)))
  else
  (if ((xset M 0 0 (0 : Int32)) 0 49) < 0 ∨ 8 ≤ ((xset M 0 0 (0 : Int32)) 0 49).toNatClampNeg then none else
  (if ((xset (xset M 0 0 (0 : Int32)) 26 ((xset M 0 0 (0 : Int32)) 0 49).toNatClampNeg x1) 0 49) < 0 ∨ 8 ≤ ((xset (xset M 0 0 (0 : Int32)) 26 ((xset M 0 0 (0 : Int32)) 0 49).toNatClampNeg x1) 0 49).toNatClampNeg then none else
  some ((((xset (xset (xset (xset M 0 0 (0 : Int32)) 26 ((xset M 0 0 (0 : Int32)) 0 49).toNatClampNeg x1) 27 ((xset (xset M 0 0 (0 : Int32)) 26 ((xset M 0 0 (0 : Int32)) 0 49).toNatClampNeg x1) 0 49).toNatClampNeg x2) 0 49 (((xset (xset (xset M 0 0 (0 : Int32)) 26 ((xset M 0 0 (0 : Int32)) 0 49).toNatClampNeg x1) 27 ((xset (xset M 0 0 (0 : Int32)) 26 ((xset M 0 0 (0 : Int32)) 0 49).toNatClampNeg x1) 0 49).toNatClampNeg x2) 0 49) + (1 : Int32))) 0 49) - (1 : Int32)), (xset (xset (xset (xset M 0 0 (0 : Int32)) 26 ((xset M 0 0 (0 : Int32)) 0 49).toNatClampNeg x1) 27 ((xset (xset M 0 0 (0 : Int32)) 26 ((xset M 0 0 (0 : Int32)) 0 49).toNatClampNeg x1) 0 49).toNatClampNeg x2) 0 49 (((xset (xset (xset M 0 0 (0 : Int32)) 26 ((xset M 0 0 (0 : Int32)) 0 49).toNatClampNeg x1) 27 ((xset (xset M 0 0 (0 : Int32)) 26 ((xset M 0 0 (0 : Int32)) 0 49).toNatClampNeg x1) 0 49).toNatClampNeg x2) 0 49) + (1 : Int32)))))))))
set_option maxRecDepth 100000 in
set_option maxHeartbeats 4000000 in
theorem w_X12_test {l : Launch} (x1 : Int32) (x2 : Int32)     (M : xM)  : AW SM l RX12 cX12_test 3 (some .int) 1 ki (F_X12_test x1 x2  M) 0 [some (xr 0), some (xi x1), some (xi x2)] [] M := by
  unfold F_X12_test
  refine A_aload_n dX12_test_0 rfl ?_
  refine A_iconst (v := (0 : Int32)) dX12_test_1 oI_0 ?_
  refine A_puti lf_X12_180 rfl rfl dX12_test_2 ?_
  refine A_aload_n dX12_test_5 rfl ?_
  refine A_geti lf_X12_420 rfl rfl dX12_test_6 ?_
  refine A_bipush (v := (8 : Int32)) dX12_test_9 oB_8 ?_
  refine A_icmp_eq (tgt := 33) dX12_test_11 (by decide) (fun _ => ?_) (fun _ => ?_)
  · refine A_iconst (v := (-1 : Int32)) dX12_test_33 oI_m1 ?_
    exact A_iret rfl dX12_test_34
  · refine A_aload_n dX12_test_14 rfl ?_
    refine A_iload_n dX12_test_15 rfl ?_
    refine A_callVp (a_X12_isRow (l := l) _ _ ) lc_X12_192 rfl rfl (by decide) (Nat.le_of_ble_eq_true rfl) rfl dX12_test_16 ?_
    refine A_if_eq (tgt := 33) dX12_test_19 (by decide) (fun _ => ?_) (fun _ => ?_)
    · refine A_iconst (v := (-1 : Int32)) dX12_test_33 oI_m1 ?_
      exact A_iret rfl dX12_test_34
    · refine A_iload_n dX12_test_22 rfl ?_
      refine A_iconst (v := (0 : Int32)) dX12_test_23 oI_0 ?_
      refine A_sipush (v := (200 : Int32)) dX12_test_24 oS_200 ?_
      refine A_callSp (a_X12_isIn (l := l) _ _ _ _ ) lc_X12_196 rfl (by decide) (Nat.le_of_ble_eq_true rfl) rfl dX12_test_27 ?_
      refine A_if_ne (tgt := 35) dX12_test_30 (by decide) (fun _ => ?_) (fun _ => ?_)
      · refine A_iconst (v := (-1 : Int32)) dX12_test_33 oI_m1 ?_
        exact A_iret rfl dX12_test_34
      · refine A_aload_n dX12_test_35 rfl ?_
        refine A_getr lf_X12_105 rfl rfl dX12_test_36 ?_
        refine A_aload_n dX12_test_39 rfl ?_
        refine A_geti lf_X12_420 rfl rfl dX12_test_40 ?_
        refine A_iload_n dX12_test_43 rfl ?_
        refine A_iast rfl dX12_test_44 (fun _ => ?_)
        refine A_aload_n dX12_test_45 rfl ?_
        refine A_getr lf_X12_108 rfl rfl dX12_test_46 ?_
        refine A_aload_n dX12_test_49 rfl ?_
        refine A_geti lf_X12_420 rfl rfl dX12_test_50 ?_
        refine A_iload_n dX12_test_53 rfl ?_
        refine A_iast rfl dX12_test_54 (fun _ => ?_)
        refine A_aload_n dX12_test_55 rfl ?_
        refine A_dup dX12_test_56 rfl ?_
        refine A_geti lf_X12_420 rfl rfl dX12_test_57 ?_
        refine A_iconst (v := (1 : Int32)) dX12_test_60 oI_1 ?_
        refine A_iadd dX12_test_61 ?_
        refine A_puti lf_X12_420 rfl rfl dX12_test_62 ?_
        refine A_aload_n dX12_test_65 rfl ?_
        refine A_geti lf_X12_420 rfl rfl dX12_test_66 ?_
        refine A_iconst (v := (1 : Int32)) dX12_test_69 oI_1 ?_
        refine A_isub dX12_test_70 ?_
        exact A_iret rfl dX12_test_71
theorem a_X12_test {l : Launch}  (x1 : Int32) (x2 : Int32) (M : xM)  : AM SM l yX12_test cX12_test 3 (some .int) 1 ki [xr 0, xi x1, xi x2] M (F_X12_test  x1 x2  M) :=
  AM.of (L0 := [some (xr 0), some (xi x1), some (xi x2)]) (w_X12_test (l := l) x1 x2  M ) (by decide +kernel) rfl (Nat.le_of_ble_eq_true rfl) ⟨rfl, rfl, rfl, trivial⟩
def F_X12_isLetNow_b64 (fu : Nat)  (x1 : Int32) (k2 : Int32 → xM → Option (Int32 × xM)) (k15 : Int32 → Int32 → Int32 → xM → Option (Int32 × xM)) (x2 : Int32) (x4 : Int32) (s0 : Int32) (M : xM) : Option (Int32 × xM) :=
  k15 x2 s0 (x4 + (1 : Int32)) M
set_option maxRecDepth 100000 in
set_option maxHeartbeats 4000000 in
theorem a_X12_isLetNow_b64 {l : Launch} (fu : Nat) (x1 : Int32)  {k2 : Int32 → xM → Option (Int32 × xM)} {k15 : Int32 → Int32 → Int32 → xM → Option (Int32 × xM)} (hk2 : ∀ (b0 : Int32) (M : xM), AW SM l RX12 cX12_isLetNow 5 (some .boolean) 2 ki (k2 b0 M) 2 [some (xr 0), some (xi x1), some (xi b0), none, none] [] M) (hk15 : ∀ (b0 : Int32) (b1 : Int32) (b2 : Int32) (M : xM), AW SM l RX12 cX12_isLetNow 5 (some .boolean) 2 ki (k15 b0 b1 b2 M) 15 [some (xr 0), some (xi x1), some (xi b0), some (xi b1), some (xi b2)] [] M) (x2 : Int32) (x4 : Int32) (s0 : Int32) (M : xM)  : AW SM l RX12 cX12_isLetNow 5 (some .boolean) 2 ki (F_X12_isLetNow_b64 fu x1 k2 k15 x2 x4 s0 M) 64 [some (xr 0), some (xi x1), some (xi x2), none, some (xi x4)] [xi s0] M := by
  unfold F_X12_isLetNow_b64
  refine A_istore_n dX12_isLetNow_64 (Nat.le_of_ble_eq_true rfl) rfl ?_
  refine A_iinc dX12_isLetNow_65 rfl oI_1 (Nat.le_of_ble_eq_true rfl) rfl ?_
  refine A_goto (tgt := 15) dX12_isLetNow_68 (by decide) ?_
  exact (hk15 _ _ _ _).sub ⟨rfl, rfl, rfl, rfl, rfl, trivial⟩
def F_X12_isLetNow_b59 (fu : Nat)  (x1 : Int32) (k2 : Int32 → xM → Option (Int32 × xM)) (k15 : Int32 → Int32 → Int32 → xM → Option (Int32 × xM)) (x2 : Int32) (x4 : Int32) (M : xM) : Option (Int32 × xM) :=
  F_X12_isLetNow_b64 fu x1 k2 k15 x2 x4 (1 : Int32) M
set_option maxRecDepth 100000 in
set_option maxHeartbeats 4000000 in
theorem a_X12_isLetNow_b59 {l : Launch} (fu : Nat) (x1 : Int32)  {k2 : Int32 → xM → Option (Int32 × xM)} {k15 : Int32 → Int32 → Int32 → xM → Option (Int32 × xM)} (hk2 : ∀ (b0 : Int32) (M : xM), AW SM l RX12 cX12_isLetNow 5 (some .boolean) 2 ki (k2 b0 M) 2 [some (xr 0), some (xi x1), some (xi b0), none, none] [] M) (hk15 : ∀ (b0 : Int32) (b1 : Int32) (b2 : Int32) (M : xM), AW SM l RX12 cX12_isLetNow 5 (some .boolean) 2 ki (k15 b0 b1 b2 M) 15 [some (xr 0), some (xi x1), some (xi b0), some (xi b1), some (xi b2)] [] M) (x2 : Int32) (x4 : Int32) (M : xM)  : AW SM l RX12 cX12_isLetNow 5 (some .boolean) 2 ki (F_X12_isLetNow_b59 fu x1 k2 k15 x2 x4 M) 59 [some (xr 0), some (xi x1), some (xi x2), none, some (xi x4)] [] M := by
  unfold F_X12_isLetNow_b59
  refine A_iconst (v := (1 : Int32)) dX12_isLetNow_59 oI_1 ?_
  refine A_goto (tgt := 64) dX12_isLetNow_60 (by decide) ?_
  exact (a_X12_isLetNow_b64 (l := l) fu x1 hk2 hk15 _ _ _ _ ).sub ⟨rfl, rfl, rfl, rfl, trivial⟩
def F_X12_isLetNow_b63 (fu : Nat)  (x1 : Int32) (k2 : Int32 → xM → Option (Int32 × xM)) (k15 : Int32 → Int32 → Int32 → xM → Option (Int32 × xM)) (x2 : Int32) (x4 : Int32) (M : xM) : Option (Int32 × xM) :=
  F_X12_isLetNow_b64 fu x1 k2 k15 x2 x4 (0 : Int32) M
set_option maxRecDepth 100000 in
set_option maxHeartbeats 4000000 in
theorem a_X12_isLetNow_b63 {l : Launch} (fu : Nat) (x1 : Int32)  {k2 : Int32 → xM → Option (Int32 × xM)} {k15 : Int32 → Int32 → Int32 → xM → Option (Int32 × xM)} (hk2 : ∀ (b0 : Int32) (M : xM), AW SM l RX12 cX12_isLetNow 5 (some .boolean) 2 ki (k2 b0 M) 2 [some (xr 0), some (xi x1), some (xi b0), none, none] [] M) (hk15 : ∀ (b0 : Int32) (b1 : Int32) (b2 : Int32) (M : xM), AW SM l RX12 cX12_isLetNow 5 (some .boolean) 2 ki (k15 b0 b1 b2 M) 15 [some (xr 0), some (xi x1), some (xi b0), some (xi b1), some (xi b2)] [] M) (x2 : Int32) (x4 : Int32) (M : xM)  : AW SM l RX12 cX12_isLetNow 5 (some .boolean) 2 ki (F_X12_isLetNow_b63 fu x1 k2 k15 x2 x4 M) 63 [some (xr 0), some (xi x1), some (xi x2), none, some (xi x4)] [] M := by
  unfold F_X12_isLetNow_b63
  refine A_iconst (v := (0 : Int32)) dX12_isLetNow_63 oI_0 ?_
  exact (a_X12_isLetNow_b64 (l := l) fu x1 hk2 hk15 _ _ _ _ ).sub ⟨rfl, rfl, rfl, rfl, trivial⟩
def F_X12_isLetNow_b89 (fu : Nat)  (x1 : Int32) (k2 : Int32 → xM → Option (Int32 × xM)) (x2 : Int32) (M : xM) : Option (Int32 × xM) :=
  k2 (x2 + (1 : Int32)) M
set_option maxRecDepth 100000 in
set_option maxHeartbeats 4000000 in
theorem a_X12_isLetNow_b89 {l : Launch} (fu : Nat) (x1 : Int32)  {k2 : Int32 → xM → Option (Int32 × xM)} (hk2 : ∀ (b0 : Int32) (M : xM), AW SM l RX12 cX12_isLetNow 5 (some .boolean) 2 ki (k2 b0 M) 2 [some (xr 0), some (xi x1), some (xi b0), none, none] [] M) (x2 : Int32) (M : xM)  : AW SM l RX12 cX12_isLetNow 5 (some .boolean) 2 ki (F_X12_isLetNow_b89 fu x1 k2 x2 M) 89 [some (xr 0), some (xi x1), some (xi x2), none, none] [] M := by
  unfold F_X12_isLetNow_b89
  refine A_iinc dX12_isLetNow_89 rfl oI_1 (Nat.le_of_ble_eq_true rfl) rfl ?_
  refine A_goto (tgt := 2) dX12_isLetNow_92 (by decide) ?_
  exact (hk2 _ _).sub ⟨rfl, rfl, rfl, trivial⟩
def F_X12_isLetNow_b15 (fu : Nat)  (x1 : Int32) (k2 : Int32 → xM → Option (Int32 × xM)) : Nat → Int32 → Int32 → Int32 → xM → Option (Int32 × xM)
  | 0, _, _, _, _ => none
  | n + 1, x2, x3, x4, M =>
    (if (M 0 7) ≤ x4 then
    (if x3 = 0 then
    (F_X12_against fu x1 M).bind fun q1 =>
    (if (P_X12_has q1.1 x2 q1.2) = 0 then
    F_X12_isLetNow_b89 fu x1 k2 x2 q1.2
    else
    some ((0 : Int32), q1.2))
    else
    F_X12_isLetNow_b89 fu x1 k2 x2 M)
    else
    (if x3 = 0 then
    (if (P_X12_has (M 0 42) x4 M) = 0 then
    F_X12_isLetNow_b63 fu x1 k2 (F_X12_isLetNow_b15 fu x1 k2 n) x2 x4 M
    else
    (if x2 < 0 ∨ 10 ≤ x2.toNatClampNeg then none else
    (if x4 < 0 ∨ 6 ≤ x4.toNatClampNeg then none else
    (if ((M 4 x2.toNatClampNeg) &&& ((M 1 x4.toNatClampNeg) ^^^ (-1 : Int32))) = 0 then
    F_X12_isLetNow_b59 fu x1 k2 (F_X12_isLetNow_b15 fu x1 k2 n) x2 x4 M
    else
    F_X12_isLetNow_b63 fu x1 k2 (F_X12_isLetNow_b15 fu x1 k2 n) x2 x4 M))))
    else
    F_X12_isLetNow_b59 fu x1 k2 (F_X12_isLetNow_b15 fu x1 k2 n) x2 x4 M))
set_option maxRecDepth 100000 in
set_option maxHeartbeats 4000000 in
theorem a_X12_isLetNow_b15 {l : Launch} (fu : Nat) (x1 : Int32)  {k2 : Int32 → xM → Option (Int32 × xM)} (hk2 : ∀ (b0 : Int32) (M : xM), AW SM l RX12 cX12_isLetNow 5 (some .boolean) 2 ki (k2 b0 M) 2 [some (xr 0), some (xi x1), some (xi b0), none, none] [] M) : ∀ (n : Nat) (x2 : Int32) (x3 : Int32) (x4 : Int32) (M : xM), AW SM l RX12 cX12_isLetNow 5 (some .boolean) 2 ki (F_X12_isLetNow_b15 fu x1 k2 n x2 x3 x4 M) 15 [some (xr 0), some (xi x1), some (xi x2), some (xi x3), some (xi x4)] [] M := by
  intro n
  induction n with
  | zero =>
    intro x2 x3 x4 M
    exact AW.none
  | succ n ih =>
    intro x2 x3 x4 M
    rw [F_X12_isLetNow_b15]
    refine A_iload dX12_isLetNow_15 rfl ?_
    refine A_aload_n dX12_isLetNow_17 rfl ?_
    refine A_geti lf_X12_189 rfl rfl dX12_isLetNow_18 ?_
    refine A_icmp_ge (tgt := 71) dX12_isLetNow_21 (by decide) (fun _ => ?_) (fun _ => ?_)
    · refine A_iload_n dX12_isLetNow_71 rfl ?_
      refine A_if_ne (tgt := 89) dX12_isLetNow_72 (by decide) (fun _ => ?_) (fun _ => ?_)
      · refine A_aload_n dX12_isLetNow_75 rfl ?_
        refine A_iload_n dX12_isLetNow_76 rfl ?_
        refine A_callVi (a_X12_against (l := l) fu _ _ ) lc_X12_207 rfl rfl (by decide) (Nat.le_of_ble_eq_true rfl) rfl dX12_isLetNow_77 (fun q1 Mq1 hq1 => ?_)
        refine A_iload_n dX12_isLetNow_80 rfl ?_
        refine A_callSp (a_X12_has (l := l) _ _ _ ) lc_X12_200 rfl (by decide) (Nat.le_of_ble_eq_true rfl) rfl dX12_isLetNow_81 ?_
        refine A_if_eq (tgt := 89) dX12_isLetNow_84 (by decide) (fun _ => ?_) (fun _ => ?_)
        · exact (a_X12_isLetNow_b89 (l := l) fu x1 hk2 _ _ ).sub ⟨rfl, rfl, rfl, trivial⟩
        · refine A_iconst (v := (0 : Int32)) dX12_isLetNow_87 oI_0 ?_
          exact A_zret' rfl (Or.inl rfl) dX12_isLetNow_88
      · exact (a_X12_isLetNow_b89 (l := l) fu x1 hk2 _ _ ).sub ⟨rfl, rfl, rfl, trivial⟩
    · refine A_iload_n dX12_isLetNow_24 rfl ?_
      refine A_if_ne (tgt := 59) dX12_isLetNow_25 (by decide) (fun _ => ?_) (fun _ => ?_)
      · refine A_aload_n dX12_isLetNow_28 rfl ?_
        refine A_geti lf_X12_349 rfl rfl dX12_isLetNow_29 ?_
        refine A_iload dX12_isLetNow_32 rfl ?_
        refine A_callSp (a_X12_has (l := l) _ _ _ ) lc_X12_200 rfl (by decide) (Nat.le_of_ble_eq_true rfl) rfl dX12_isLetNow_34 ?_
        refine A_if_eq (tgt := 63) dX12_isLetNow_37 (by decide) (fun _ => ?_) (fun _ => ?_)
        · exact (a_X12_isLetNow_b63 (l := l) fu x1 hk2 ih _ _ _ ).sub ⟨rfl, rfl, rfl, rfl, trivial⟩
        · refine A_aload_n dX12_isLetNow_40 rfl ?_
          refine A_getr lf_X12_19 rfl rfl dX12_isLetNow_41 ?_
          refine A_iload_n dX12_isLetNow_44 rfl ?_
          refine A_iald rfl dX12_isLetNow_45 (fun _ => ?_)
          refine A_aload_n dX12_isLetNow_46 rfl ?_
          refine A_getr lf_X12_9 rfl rfl dX12_isLetNow_47 ?_
          refine A_iload dX12_isLetNow_50 rfl ?_
          refine A_iald rfl dX12_isLetNow_52 (fun _ => ?_)
          refine A_iconst (v := (-1 : Int32)) dX12_isLetNow_53 oI_m1 ?_
          refine A_ixor dX12_isLetNow_54 ?_
          refine A_iand dX12_isLetNow_55 ?_
          refine A_if_ne (tgt := 63) dX12_isLetNow_56 (by decide) (fun _ => ?_) (fun _ => ?_)
          · exact (a_X12_isLetNow_b59 (l := l) fu x1 hk2 ih _ _ _ ).sub ⟨rfl, rfl, rfl, rfl, trivial⟩
          · exact (a_X12_isLetNow_b63 (l := l) fu x1 hk2 ih _ _ _ ).sub ⟨rfl, rfl, rfl, rfl, trivial⟩
      · exact (a_X12_isLetNow_b59 (l := l) fu x1 hk2 ih _ _ _ ).sub ⟨rfl, rfl, rfl, rfl, trivial⟩
def F_X12_isLetNow_b2 (fu : Nat)  (x1 : Int32)  : Nat → Int32 → xM → Option (Int32 × xM)
  | 0, _, _ => none
  | n + 1, x2, M =>
    (if (M 0 8) ≤ x2 then
    some ((1 : Int32), M)
    else
    F_X12_isLetNow_b15 fu x1 (F_X12_isLetNow_b2 fu x1 n) fu x2 (0 : Int32) (0 : Int32) M)
set_option maxRecDepth 100000 in
set_option maxHeartbeats 4000000 in
theorem a_X12_isLetNow_b2 {l : Launch} (fu : Nat) (x1 : Int32)    : ∀ (n : Nat) (x2 : Int32) (M : xM), AW SM l RX12 cX12_isLetNow 5 (some .boolean) 2 ki (F_X12_isLetNow_b2 fu x1 n x2 M) 2 [some (xr 0), some (xi x1), some (xi x2), none, none] [] M := by
  intro n
  induction n with
  | zero =>
    intro x2 M
    exact AW.none
  | succ n ih =>
    intro x2 M
    rw [F_X12_isLetNow_b2]
    refine A_iload_n dX12_isLetNow_2 rfl ?_
    refine A_aload_n dX12_isLetNow_3 rfl ?_
    refine A_geti lf_X12_204 rfl rfl dX12_isLetNow_4 ?_
    refine A_icmp_ge (tgt := 95) dX12_isLetNow_7 (by decide) (fun _ => ?_) (fun _ => ?_)
    · refine A_iconst (v := (1 : Int32)) dX12_isLetNow_95 oI_1 ?_
      exact A_zret' rfl (Or.inr rfl) dX12_isLetNow_96
    · refine A_iconst (v := (0 : Int32)) dX12_isLetNow_10 oI_0 ?_
      refine A_istore_n dX12_isLetNow_11 (Nat.le_of_ble_eq_true rfl) rfl ?_
      refine A_iconst (v := (0 : Int32)) dX12_isLetNow_12 oI_0 ?_
      refine A_istore dX12_isLetNow_13 (Nat.le_of_ble_eq_true rfl) rfl ?_
      exact (a_X12_isLetNow_b15 (l := l) fu x1 ih fu _ _ _ _).sub ⟨rfl, rfl, rfl, rfl, rfl, trivial⟩
def F_X12_isLetNow (fu : Nat)  (x1 : Int32)   (M : xM) : Option (Int32 × xM) :=
  F_X12_isLetNow_b2 fu x1 fu (0 : Int32) M
set_option maxRecDepth 100000 in
set_option maxHeartbeats 4000000 in
theorem w_X12_isLetNow {l : Launch} (fu : Nat) (x1 : Int32)     (M : xM)  : AW SM l RX12 cX12_isLetNow 5 (some .boolean) 2 ki (F_X12_isLetNow fu x1  M) 0 [some (xr 0), some (xi x1), none, none, none] [] M := by
  unfold F_X12_isLetNow
  refine A_iconst (v := (0 : Int32)) dX12_isLetNow_0 oI_0 ?_
  refine A_istore_n dX12_isLetNow_1 (Nat.le_of_ble_eq_true rfl) rfl ?_
  exact (a_X12_isLetNow_b2 (l := l) fu x1  fu _ _).sub ⟨rfl, rfl, rfl, trivial⟩
theorem a_X12_isLetNow {l : Launch} (fu : Nat)  (x1 : Int32) (M : xM)  : AM SM l yX12_isLetNow cX12_isLetNow 5 (some .boolean) 2 ki [xr 0, xi x1] M (F_X12_isLetNow fu x1  M) :=
  AM.of (L0 := [some (xr 0), some (xi x1), none, none, none]) (w_X12_isLetNow (l := l) fu x1  M ) (by decide +kernel) rfl (Nat.le_of_ble_eq_true rfl) ⟨rfl, rfl, trivial⟩
def F_X12_behind_b59 (fu : Nat)  (x1 : Int32) (x2 : Int32) (k5 : Int32 → Int32 → xM → Option (Int32 × xM)) (x3 : Int32) (x4 : Int32) (M : xM) : Option (Int32 × xM) :=
  k5 x3 (x4 + (1 : Int32)) M
set_option maxRecDepth 100000 in
set_option maxHeartbeats 4000000 in
theorem a_X12_behind_b59 {l : Launch} (fu : Nat) (x1 : Int32) (x2 : Int32)  {k5 : Int32 → Int32 → xM → Option (Int32 × xM)} (hk5 : ∀ (b0 : Int32) (b1 : Int32) (M : xM), AW SM l RX12 cX12_behind 5 (some .int) 3 ki (k5 b0 b1 M) 5 [some (xr 0), some (xi x1), some (xi x2), some (xi b0), some (xi b1)] [] M) (x3 : Int32) (x4 : Int32) (M : xM)  : AW SM l RX12 cX12_behind 5 (some .int) 3 ki (F_X12_behind_b59 fu x1 x2 k5 x3 x4 M) 59 [some (xr 0), some (xi x1), some (xi x2), some (xi x3), some (xi x4)] [] M := by
  unfold F_X12_behind_b59
  refine A_iinc dX12_behind_59 rfl oI_1 (Nat.le_of_ble_eq_true rfl) rfl ?_
  refine A_goto (tgt := 5) dX12_behind_62 (by decide) ?_
  exact (hk5 _ _ _).sub ⟨rfl, rfl, rfl, rfl, rfl, trivial⟩
def F_X12_behind_b5 (fu : Nat)  (x1 : Int32) (x2 : Int32)  : Nat → Int32 → Int32 → xM → Option (Int32 × xM)
  | 0, _, _, _ => none
  | n + 1, x3, x4, M =>
    (if (M 0 1) ≤ x4 then
    (F_X12_shown x2 x3 M).bind fun q1 =>
    some (q1.1, q1.2)
    else
    (if x4 < 0 ∨ 16 ≤ x4.toNatClampNeg then none else
    (if (M 19 x4.toNatClampNeg) = x2 then
    (if x1 < 0 ∨ 8 ≤ x1.toNatClampNeg then none else
    (if (P_X12_has (M 26 x1.toNatClampNeg) x4 M) = 0 then
    F_X12_behind_b59 fu x1 x2 (F_X12_behind_b5 fu x1 x2 n) x3 x4 M
    else
    (if x1 < 0 ∨ 8 ≤ x1.toNatClampNeg then none else
    (F_X12_isLetNow fu (M 26 x1.toNatClampNeg) M).bind fun q2 =>
    (if q2.1 = 0 then
    F_X12_behind_b59 fu x1 x2 (F_X12_behind_b5 fu x1 x2 n) x3 x4 q2.2
    else
    (if x1 < 0 ∨ 8 ≤ x1.toNatClampNeg then none else
    F_X12_behind_b59 fu x1 x2 (F_X12_behind_b5 fu x1 x2 n) (q2.2 27 x1.toNatClampNeg) x4 q2.2)))))
    else
    F_X12_behind_b59 fu x1 x2 (F_X12_behind_b5 fu x1 x2 n) x3 x4 M)))
set_option maxRecDepth 100000 in
set_option maxHeartbeats 4000000 in
theorem a_X12_behind_b5 {l : Launch} (fu : Nat) (x1 : Int32) (x2 : Int32)    : ∀ (n : Nat) (x3 : Int32) (x4 : Int32) (M : xM), AW SM l RX12 cX12_behind 5 (some .int) 3 ki (F_X12_behind_b5 fu x1 x2 n x3 x4 M) 5 [some (xr 0), some (xi x1), some (xi x2), some (xi x3), some (xi x4)] [] M := by
  intro n
  induction n with
  | zero =>
    intro x3 x4 M
    exact AW.none
  | succ n ih =>
    intro x3 x4 M
    rw [F_X12_behind_b5]
    refine A_iload dX12_behind_5 rfl ?_
    refine A_aload_n dX12_behind_7 rfl ?_
    refine A_geti lf_X12_177 rfl rfl dX12_behind_8 ?_
    refine A_icmp_ge (tgt := 65) dX12_behind_11 (by decide) (fun _ => ?_) (fun _ => ?_)
    · refine A_aload_n dX12_behind_65 rfl ?_
      refine A_iload_n dX12_behind_66 rfl ?_
      refine A_iload_n dX12_behind_67 rfl ?_
      refine A_callVi (a_X12_shown (l := l) _ _ _ ) lc_X12_352 rfl rfl (by decide) (Nat.le_of_ble_eq_true rfl) rfl dX12_behind_68 (fun q1 Mq1 hq1 => ?_)
      exact A_iret rfl dX12_behind_71
    · refine A_aload_n dX12_behind_14 rfl ?_
      refine A_getr lf_X12_84 rfl rfl dX12_behind_15 ?_
      refine A_iload dX12_behind_18 rfl ?_
      refine A_iald rfl dX12_behind_20 (fun _ => ?_)
      refine A_iload_n dX12_behind_21 rfl ?_
      refine A_icmp_ne (tgt := 59) dX12_behind_22 (by decide) (fun _ => ?_) (fun _ => ?_)
      · refine A_aload_n dX12_behind_25 rfl ?_
        refine A_getr lf_X12_105 rfl rfl dX12_behind_26 ?_
        refine A_iload_n dX12_behind_29 rfl ?_
        refine A_iald rfl dX12_behind_30 (fun _ => ?_)
        refine A_iload dX12_behind_31 rfl ?_
        refine A_callSp (a_X12_has (l := l) _ _ _ ) lc_X12_200 rfl (by decide) (Nat.le_of_ble_eq_true rfl) rfl dX12_behind_33 ?_
        refine A_if_eq (tgt := 59) dX12_behind_36 (by decide) (fun _ => ?_) (fun _ => ?_)
        · exact (a_X12_behind_b59 (l := l) fu x1 x2 ih _ _ _ ).sub ⟨rfl, rfl, rfl, rfl, rfl, trivial⟩
        · refine A_aload_n dX12_behind_39 rfl ?_
          refine A_aload_n dX12_behind_40 rfl ?_
          refine A_getr lf_X12_105 rfl rfl dX12_behind_41 ?_
          refine A_iload_n dX12_behind_44 rfl ?_
          refine A_iald rfl dX12_behind_45 (fun _ => ?_)
          refine A_callVi (a_X12_isLetNow (l := l) fu _ _ ) lc_X12_423 rfl rfl (by decide) (Nat.le_of_ble_eq_true rfl) rfl dX12_behind_46 (fun q2 Mq2 hq2 => ?_)
          refine A_if_eq (tgt := 59) dX12_behind_49 (by decide) (fun _ => ?_) (fun _ => ?_)
          · exact (a_X12_behind_b59 (l := l) fu x1 x2 ih _ _ _ ).sub ⟨rfl, rfl, rfl, rfl, rfl, trivial⟩
          · refine A_aload_n dX12_behind_52 rfl ?_
            refine A_getr lf_X12_108 rfl rfl dX12_behind_53 ?_
            refine A_iload_n dX12_behind_56 rfl ?_
            refine A_iald rfl dX12_behind_57 (fun _ => ?_)
            refine A_istore_n dX12_behind_58 (Nat.le_of_ble_eq_true rfl) rfl ?_
            exact (a_X12_behind_b59 (l := l) fu x1 x2 ih _ _ _ ).sub ⟨rfl, rfl, rfl, rfl, rfl, trivial⟩
      · exact (a_X12_behind_b59 (l := l) fu x1 x2 ih _ _ _ ).sub ⟨rfl, rfl, rfl, rfl, rfl, trivial⟩
def F_X12_behind (fu : Nat)  (x1 : Int32) (x2 : Int32)   (M : xM) : Option (Int32 × xM) :=
  F_X12_behind_b5 fu x1 x2 fu (0 : Int32) (0 : Int32) M
set_option maxRecDepth 100000 in
set_option maxHeartbeats 4000000 in
theorem w_X12_behind {l : Launch} (fu : Nat) (x1 : Int32) (x2 : Int32)     (M : xM)  : AW SM l RX12 cX12_behind 5 (some .int) 3 ki (F_X12_behind fu x1 x2  M) 0 [some (xr 0), some (xi x1), some (xi x2), none, none] [] M := by
  unfold F_X12_behind
  refine A_iconst (v := (0 : Int32)) dX12_behind_0 oI_0 ?_
  refine A_istore_n dX12_behind_1 (Nat.le_of_ble_eq_true rfl) rfl ?_
  refine A_iconst (v := (0 : Int32)) dX12_behind_2 oI_0 ?_
  refine A_istore dX12_behind_3 (Nat.le_of_ble_eq_true rfl) rfl ?_
  exact (a_X12_behind_b5 (l := l) fu x1 x2  fu _ _ _).sub ⟨rfl, rfl, rfl, rfl, rfl, trivial⟩
theorem a_X12_behind {l : Launch} (fu : Nat)  (x1 : Int32) (x2 : Int32) (M : xM)  : AM SM l yX12_behind cX12_behind 5 (some .int) 3 ki [xr 0, xi x1, xi x2] M (F_X12_behind fu x1 x2  M) :=
  AM.of (L0 := [some (xr 0), some (xi x1), some (xi x2), none, none]) (w_X12_behind (l := l) fu x1 x2  M ) (by decide +kernel) rfl (Nat.le_of_ble_eq_true rfl) ⟨rfl, rfl, rfl, trivial⟩
def F_X12_seesOne_b88 (fu : Nat)  (x1 : Int32) (x2 : Int32) (x3 : Int32) (k49 : Int32 → xM → Option (Int32 × xM)) (x4 : Int32) (M : xM) : Option (Int32 × xM) :=
  k49 (x4 + (1 : Int32)) M
set_option maxRecDepth 100000 in
set_option maxHeartbeats 4000000 in
theorem a_X12_seesOne_b88 {l : Launch} (fu : Nat) (x1 : Int32) (x2 : Int32) (x3 : Int32)  {k49 : Int32 → xM → Option (Int32 × xM)} (hk49 : ∀ (b0 : Int32) (M : xM), AW SM l RX12 cX12_seesOne 5 (some .boolean) 4 ki (k49 b0 M) 49 [some (xr 0), some (xi x1), none, none, some (xi b0)] [] M) (x4 : Int32) (M : xM)  : AW SM l RX12 cX12_seesOne 5 (some .boolean) 4 ki (F_X12_seesOne_b88 fu x1 x2 x3 k49 x4 M) 88 [some (xr 0), some (xi x1), none, none, some (xi x4)] [] M := by
  unfold F_X12_seesOne_b88
  refine A_iinc dX12_seesOne_88 rfl oI_1 (Nat.le_of_ble_eq_true rfl) rfl ?_
  refine A_goto (tgt := 49) dX12_seesOne_91 (by decide) ?_
  exact (hk49 _ _).sub ⟨rfl, rfl, rfl, trivial⟩
def F_X12_seesOne_b49 (fu : Nat)  (x1 : Int32) (x2 : Int32) (x3 : Int32)  : Nat → Int32 → xM → Option (Int32 × xM)
  | 0, _, _ => none
  | n + 1, x4, M =>
    (if (M 0 1) ≤ x4 then
    some ((0 : Int32), M)
    else
    (if x4 < 0 ∨ 16 ≤ x4.toNatClampNeg then none else
    (if (M 3 x4.toNatClampNeg) = (-1 : Int32) then
    F_X12_seesOne_b88 fu x1 x2 x3 (F_X12_seesOne_b49 fu x1 x2 x3 n) x4 M
    else
    (F_X12_behind fu x1 x4 M).bind fun q1 =>
    (if x4 < 0 ∨ 16 ≤ x4.toNatClampNeg then none else
    (if q1.1 = (q1.2 28 x4.toNatClampNeg) then
    F_X12_seesOne_b88 fu x1 x2 x3 (F_X12_seesOne_b49 fu x1 x2 x3 n) x4 q1.2
    else
    some ((1 : Int32), q1.2))))))
set_option maxRecDepth 100000 in
set_option maxHeartbeats 4000000 in
theorem a_X12_seesOne_b49 {l : Launch} (fu : Nat) (x1 : Int32) (x2 : Int32) (x3 : Int32)    : ∀ (n : Nat) (x4 : Int32) (M : xM), AW SM l RX12 cX12_seesOne 5 (some .boolean) 4 ki (F_X12_seesOne_b49 fu x1 x2 x3 n x4 M) 49 [some (xr 0), some (xi x1), none, none, some (xi x4)] [] M := by
  intro n
  induction n with
  | zero =>
    intro x4 M
    exact AW.none
  | succ n ih =>
    intro x4 M
    rw [F_X12_seesOne_b49]
    refine A_iload dX12_seesOne_49 rfl ?_
    refine A_aload_n dX12_seesOne_51 rfl ?_
    refine A_geti lf_X12_177 rfl rfl dX12_seesOne_52 ?_
    refine A_icmp_ge (tgt := 94) dX12_seesOne_55 (by decide) (fun _ => ?_) (fun _ => ?_)
    · refine A_iconst (v := (0 : Int32)) dX12_seesOne_94 oI_0 ?_
      exact A_zret' rfl (Or.inl rfl) dX12_seesOne_95
    · refine A_aload_n dX12_seesOne_58 rfl ?_
      refine A_getr lf_X12_16 rfl rfl dX12_seesOne_59 ?_
      refine A_iload dX12_seesOne_62 rfl ?_
      refine A_iald rfl dX12_seesOne_64 (fun _ => ?_)
      refine A_iconst (v := (-1 : Int32)) dX12_seesOne_65 oI_m1 ?_
      refine A_icmp_eq (tgt := 88) dX12_seesOne_66 (by decide) (fun _ => ?_) (fun _ => ?_)
      · exact (a_X12_seesOne_b88 (l := l) fu x1 x2 x3 ih _ _ ).sub ⟨rfl, rfl, rfl, trivial⟩
      · refine A_aload_n dX12_seesOne_69 rfl ?_
        refine A_iload_n dX12_seesOne_70 rfl ?_
        refine A_iload dX12_seesOne_71 rfl ?_
        refine A_callVi (a_X12_behind (l := l) fu _ _ _ ) lc_X12_426 rfl rfl (by decide) (Nat.le_of_ble_eq_true rfl) rfl dX12_seesOne_73 (fun q1 Mq1 hq1 => ?_)
        refine A_aload_n dX12_seesOne_76 rfl ?_
        refine A_getr lf_X12_111 rfl rfl dX12_seesOne_77 ?_
        refine A_iload dX12_seesOne_80 rfl ?_
        refine A_iald rfl dX12_seesOne_82 (fun _ => ?_)
        refine A_icmp_eq (tgt := 88) dX12_seesOne_83 (by decide) (fun _ => ?_) (fun _ => ?_)
        · exact (a_X12_seesOne_b88 (l := l) fu x1 x2 x3 ih _ _ ).sub ⟨rfl, rfl, rfl, trivial⟩
        · refine A_iconst (v := (1 : Int32)) dX12_seesOne_86 oI_1 ?_
          exact A_zret' rfl (Or.inr rfl) dX12_seesOne_87
def F_X12_seesOne_b9 (fu : Nat)  (x1 : Int32) (x2 : Int32) (x3 : Int32)  : Nat → Int32 → xM → Option (Int32 × xM)
  | 0, _, _ => none
  | n + 1, x4, M =>
    (if (M 0 1) ≤ x4 then
    (F_X12_lay fu x2 ((1 : Int32) <<< (x3 &&& 31)) M).bind fun q1 =>
    F_X12_seesOne_b49 fu x1 x2 x3 fu (0 : Int32) q1
    else
    (F_X12_behind fu x1 x4 M).bind fun q2 =>
    (if x4 < 0 ∨ 16 ≤ x4.toNatClampNeg then none else
    F_X12_seesOne_b9 fu x1 x2 x3 n (x4 + (1 : Int32)) (xset q2.2 28 x4.toNatClampNeg q2.1)))
set_option maxRecDepth 100000 in
set_option maxHeartbeats 4000000 in
theorem a_X12_seesOne_b9 {l : Launch} (fu : Nat) (x1 : Int32) (x2 : Int32) (x3 : Int32)    : ∀ (n : Nat) (x4 : Int32) (M : xM), AW SM l RX12 cX12_seesOne 5 (some .boolean) 4 ki (F_X12_seesOne_b9 fu x1 x2 x3 n x4 M) 9 [some (xr 0), some (xi x1), some (xi x2), some (xi x3), some (xi x4)] [] M := by
  intro n
  induction n with
  | zero =>
    intro x4 M
    exact AW.none
  | succ n ih =>
    intro x4 M
    rw [F_X12_seesOne_b9]
    refine A_iload dX12_seesOne_9 rfl ?_
    refine A_aload_n dX12_seesOne_11 rfl ?_
    refine A_geti lf_X12_177 rfl rfl dX12_seesOne_12 ?_
    refine A_icmp_ge (tgt := 38) dX12_seesOne_15 (by decide) (fun _ => ?_) (fun _ => ?_)
    · refine A_aload_n dX12_seesOne_38 rfl ?_
      refine A_iload_n dX12_seesOne_39 rfl ?_
      refine A_iconst (v := (1 : Int32)) dX12_seesOne_40 oI_1 ?_
      refine A_iload_n dX12_seesOne_41 rfl ?_
      refine A_ishl dX12_seesOne_42 ?_
      refine A_callVv (a_X12_lay (l := l) fu _ _ _ ) lc_X12_362 rfl rfl (by decide) (Nat.le_of_ble_eq_true rfl) rfl dX12_seesOne_43 (fun q1 hq1 => ?_)
      refine A_iconst (v := (0 : Int32)) dX12_seesOne_46 oI_0 ?_
      refine A_istore dX12_seesOne_47 (Nat.le_of_ble_eq_true rfl) rfl ?_
      exact (a_X12_seesOne_b49 (l := l) fu x1 x2 x3  fu _ _).sub ⟨rfl, rfl, rfl, trivial⟩
    · refine A_aload_n dX12_seesOne_18 rfl ?_
      refine A_getr lf_X12_111 rfl rfl dX12_seesOne_19 ?_
      refine A_iload dX12_seesOne_22 rfl ?_
      refine A_aload_n dX12_seesOne_24 rfl ?_
      refine A_iload_n dX12_seesOne_25 rfl ?_
      refine A_iload dX12_seesOne_26 rfl ?_
      refine A_callVi (a_X12_behind (l := l) fu _ _ _ ) lc_X12_426 rfl rfl (by decide) (Nat.le_of_ble_eq_true rfl) rfl dX12_seesOne_28 (fun q2 Mq2 hq2 => ?_)
      refine A_iast rfl dX12_seesOne_31 (fun _ => ?_)
      refine A_iinc dX12_seesOne_32 rfl oI_1 (Nat.le_of_ble_eq_true rfl) rfl ?_
      refine A_goto (tgt := 9) dX12_seesOne_35 (by decide) ?_
      exact (ih _ _).sub ⟨rfl, rfl, rfl, rfl, rfl, trivial⟩
def F_X12_seesOne (fu : Nat)  (x1 : Int32) (x2 : Int32) (x3 : Int32)   (M : xM) : Option (Int32 × xM) :=
  (F_X12_lay fu x2 (0 : Int32) M).bind fun q1 =>
  F_X12_seesOne_b9 fu x1 x2 x3 fu (0 : Int32) q1
set_option maxRecDepth 100000 in
set_option maxHeartbeats 4000000 in
theorem w_X12_seesOne {l : Launch} (fu : Nat) (x1 : Int32) (x2 : Int32) (x3 : Int32)     (M : xM)  : AW SM l RX12 cX12_seesOne 5 (some .boolean) 4 ki (F_X12_seesOne fu x1 x2 x3  M) 0 [some (xr 0), some (xi x1), some (xi x2), some (xi x3), none] [] M := by
  unfold F_X12_seesOne
  refine A_aload_n dX12_seesOne_0 rfl ?_
  refine A_iload_n dX12_seesOne_1 rfl ?_
  refine A_iconst (v := (0 : Int32)) dX12_seesOne_2 oI_0 ?_
  refine A_callVv (a_X12_lay (l := l) fu _ _ _ ) lc_X12_362 rfl rfl (by decide) (Nat.le_of_ble_eq_true rfl) rfl dX12_seesOne_3 (fun q1 hq1 => ?_)
  refine A_iconst (v := (0 : Int32)) dX12_seesOne_6 oI_0 ?_
  refine A_istore dX12_seesOne_7 (Nat.le_of_ble_eq_true rfl) rfl ?_
  exact (a_X12_seesOne_b9 (l := l) fu x1 x2 x3  fu _ _).sub ⟨rfl, rfl, rfl, rfl, rfl, trivial⟩
theorem a_X12_seesOne {l : Launch} (fu : Nat)  (x1 : Int32) (x2 : Int32) (x3 : Int32) (M : xM)  : AM SM l yX12_seesOne cX12_seesOne 5 (some .boolean) 4 ki [xr 0, xi x1, xi x2, xi x3] M (F_X12_seesOne fu x1 x2 x3  M) :=
  AM.of (L0 := [some (xr 0), some (xi x1), some (xi x2), some (xi x3), none]) (w_X12_seesOne (l := l) fu x1 x2 x3  M ) (by decide +kernel) rfl (Nat.le_of_ble_eq_true rfl) ⟨rfl, rfl, rfl, rfl, trivial⟩
def F_X12_seesOf_b36 (fu : Nat)  (x1 : Int32) (x2 : Int32) (k5 : Int32 → Int32 → xM → Option (Int32 × xM)) (x4 : Int32) (s0 : Int32) (s1 : Int32) (M : xM) : Option (Int32 × xM) :=
  k5 (s1 ||| s0) (x4 + (1 : Int32)) M
set_option maxRecDepth 100000 in
set_option maxHeartbeats 4000000 in
theorem a_X12_seesOf_b36 {l : Launch} (fu : Nat) (x1 : Int32) (x2 : Int32)  {k5 : Int32 → Int32 → xM → Option (Int32 × xM)} (hk5 : ∀ (b0 : Int32) (b1 : Int32) (M : xM), AW SM l RX12 cX12_seesOf 5 (some .int) 5 ki (k5 b0 b1 M) 5 [some (xr 0), some (xi x1), some (xi x2), some (xi b0), some (xi b1)] [] M) (x4 : Int32) (s0 : Int32) (s1 : Int32) (M : xM)  : AW SM l RX12 cX12_seesOf 5 (some .int) 5 ki (F_X12_seesOf_b36 fu x1 x2 k5 x4 s0 s1 M) 36 [some (xr 0), some (xi x1), some (xi x2), none, some (xi x4)] [xi s0, xi s1] M := by
  unfold F_X12_seesOf_b36
  refine A_ior dX12_seesOf_36 ?_
  refine A_istore_n dX12_seesOf_37 (Nat.le_of_ble_eq_true rfl) rfl ?_
  refine A_iinc dX12_seesOf_38 rfl oI_1 (Nat.le_of_ble_eq_true rfl) rfl ?_
  refine A_goto (tgt := 5) dX12_seesOf_41 (by decide) ?_
  exact (hk5 _ _ _).sub ⟨rfl, rfl, rfl, rfl, rfl, trivial⟩
def F_X12_seesOf_b5 (fu : Nat)  (x1 : Int32) (x2 : Int32)  : Nat → Int32 → Int32 → xM → Option (Int32 × xM)
  | 0, _, _, _ => none
  | n + 1, x3, x4, M =>
    (if x2 < 0 ∨ 6 ≤ x2.toNatClampNeg then none else
    (if (M 15 x2.toNatClampNeg) ≤ x4 then
    some (x3, M)
    else
    (F_X12_seesOne fu x1 x2 x4 M).bind fun q1 =>
    (if q1.1 = 0 then
    F_X12_seesOf_b36 fu x1 x2 (F_X12_seesOf_b5 fu x1 x2 n) x4 (0 : Int32) x3 q1.2
    else
    F_X12_seesOf_b36 fu x1 x2 (F_X12_seesOf_b5 fu x1 x2 n) x4 ((1 : Int32) <<< (x4 &&& 31)) x3 q1.2)))
set_option maxRecDepth 100000 in
set_option maxHeartbeats 4000000 in
theorem a_X12_seesOf_b5 {l : Launch} (fu : Nat) (x1 : Int32) (x2 : Int32)    : ∀ (n : Nat) (x3 : Int32) (x4 : Int32) (M : xM), AW SM l RX12 cX12_seesOf 5 (some .int) 5 ki (F_X12_seesOf_b5 fu x1 x2 n x3 x4 M) 5 [some (xr 0), some (xi x1), some (xi x2), some (xi x3), some (xi x4)] [] M := by
  intro n
  induction n with
  | zero =>
    intro x3 x4 M
    exact AW.none
  | succ n ih =>
    intro x3 x4 M
    rw [F_X12_seesOf_b5]
    refine A_iload dX12_seesOf_5 rfl ?_
    refine A_aload_n dX12_seesOf_7 rfl ?_
    refine A_getr lf_X12_72 rfl rfl dX12_seesOf_8 ?_
    refine A_iload_n dX12_seesOf_11 rfl ?_
    refine A_iald rfl dX12_seesOf_12 (fun _ => ?_)
    refine A_icmp_ge (tgt := 44) dX12_seesOf_13 (by decide) (fun _ => ?_) (fun _ => ?_)
    · refine A_iload_n dX12_seesOf_44 rfl ?_
      exact A_iret rfl dX12_seesOf_45
    · refine A_iload_n dX12_seesOf_16 rfl ?_
      refine A_aload_n dX12_seesOf_17 rfl ?_
      refine A_iload_n dX12_seesOf_18 rfl ?_
      refine A_iload_n dX12_seesOf_19 rfl ?_
      refine A_iload dX12_seesOf_20 rfl ?_
      refine A_callVi (a_X12_seesOne (l := l) fu _ _ _ _ ) lc_X12_429 rfl rfl (by decide) (Nat.le_of_ble_eq_true rfl) rfl dX12_seesOf_22 (fun q1 Mq1 hq1 => ?_)
      refine A_if_eq (tgt := 35) dX12_seesOf_25 (by decide) (fun _ => ?_) (fun _ => ?_)
      · refine A_iconst (v := (0 : Int32)) dX12_seesOf_35 oI_0 ?_
        exact (a_X12_seesOf_b36 (l := l) fu x1 x2 ih _ _ _ _ ).sub ⟨rfl, rfl, rfl, rfl, trivial⟩
      · refine A_iconst (v := (1 : Int32)) dX12_seesOf_28 oI_1 ?_
        refine A_iload dX12_seesOf_29 rfl ?_
        refine A_ishl dX12_seesOf_31 ?_
        refine A_goto (tgt := 36) dX12_seesOf_32 (by decide) ?_
        exact (a_X12_seesOf_b36 (l := l) fu x1 x2 ih _ _ _ _ ).sub ⟨rfl, rfl, rfl, rfl, trivial⟩
def F_X12_seesOf (fu : Nat)  (x1 : Int32) (x2 : Int32)   (M : xM) : Option (Int32 × xM) :=
  F_X12_seesOf_b5 fu x1 x2 fu (0 : Int32) (0 : Int32) M
set_option maxRecDepth 100000 in
set_option maxHeartbeats 4000000 in
theorem w_X12_seesOf {l : Launch} (fu : Nat) (x1 : Int32) (x2 : Int32)     (M : xM)  : AW SM l RX12 cX12_seesOf 5 (some .int) 5 ki (F_X12_seesOf fu x1 x2  M) 0 [some (xr 0), some (xi x1), some (xi x2), none, none] [] M := by
  unfold F_X12_seesOf
  refine A_iconst (v := (0 : Int32)) dX12_seesOf_0 oI_0 ?_
  refine A_istore_n dX12_seesOf_1 (Nat.le_of_ble_eq_true rfl) rfl ?_
  refine A_iconst (v := (0 : Int32)) dX12_seesOf_2 oI_0 ?_
  refine A_istore dX12_seesOf_3 (Nat.le_of_ble_eq_true rfl) rfl ?_
  exact (a_X12_seesOf_b5 (l := l) fu x1 x2  fu _ _ _).sub ⟨rfl, rfl, rfl, rfl, rfl, trivial⟩
theorem a_X12_seesOf {l : Launch} (fu : Nat)  (x1 : Int32) (x2 : Int32) (M : xM)  : AM SM l yX12_seesOf cX12_seesOf 5 (some .int) 5 ki [xr 0, xi x1, xi x2] M (F_X12_seesOf fu x1 x2  M) :=
  AM.of (L0 := [some (xr 0), some (xi x1), some (xi x2), none, none]) (w_X12_seesOf (l := l) fu x1 x2  M ) (by decide +kernel) rfl (Nat.le_of_ble_eq_true rfl) ⟨rfl, rfl, rfl, trivial⟩
def F_X12_sees (fu : Nat)  (x1 : Int32) (x2 : Int32)   (M : xM) : Option (Int32 × xM) :=
  (if (P_X12_isIn x1 (0 : Int32) (((xset M 0 0 (0 : Int32)) 0 49) - (1 : Int32)) (xset M 0 0 (0 : Int32))) = 0 then
  some ((-1 : Int32), (xset M 0 0 (0 : Int32)))
  else
  (if (P_X12_isMachine x2 (xset M 0 0 (0 : Int32))) = 0 then
  some ((-1 : Int32), (xset M 0 0 (0 : Int32)))
  else
  (F_X12_seesOf fu x1 x2 (xset M 0 0 (0 : Int32))).bind fun q1 =>
  some (q1.1, q1.2)))
set_option maxRecDepth 100000 in
set_option maxHeartbeats 4000000 in
theorem w_X12_sees {l : Launch} (fu : Nat) (x1 : Int32) (x2 : Int32)     (M : xM)  : AW SM l RX12 cX12_sees 3 (some .int) 6 ki (F_X12_sees fu x1 x2  M) 0 [some (xr 0), some (xi x1), some (xi x2)] [] M := by
  unfold F_X12_sees
  refine A_aload_n dX12_sees_0 rfl ?_
  refine A_iconst (v := (0 : Int32)) dX12_sees_1 oI_0 ?_
  refine A_puti lf_X12_180 rfl rfl dX12_sees_2 ?_
  refine A_iload_n dX12_sees_5 rfl ?_
  refine A_iconst (v := (0 : Int32)) dX12_sees_6 oI_0 ?_
  refine A_aload_n dX12_sees_7 rfl ?_
  refine A_geti lf_X12_420 rfl rfl dX12_sees_8 ?_
  refine A_iconst (v := (1 : Int32)) dX12_sees_11 oI_1 ?_
  refine A_isub dX12_sees_12 ?_
  refine A_callSp (a_X12_isIn (l := l) _ _ _ _ ) lc_X12_196 rfl (by decide) (Nat.le_of_ble_eq_true rfl) rfl dX12_sees_13 ?_
  refine A_if_eq (tgt := 36) dX12_sees_16 (by decide) (fun _ => ?_) (fun _ => ?_)
  · refine A_iconst (v := (-1 : Int32)) dX12_sees_36 oI_m1 ?_
    exact A_iret rfl dX12_sees_37
  · refine A_aload_n dX12_sees_19 rfl ?_
    refine A_iload_n dX12_sees_20 rfl ?_
    refine A_callVp (a_X12_isMachine (l := l) _ _ ) lc_X12_337 rfl rfl (by decide) (Nat.le_of_ble_eq_true rfl) rfl dX12_sees_21 ?_
    refine A_if_eq (tgt := 36) dX12_sees_24 (by decide) (fun _ => ?_) (fun _ => ?_)
    · refine A_iconst (v := (-1 : Int32)) dX12_sees_36 oI_m1 ?_
      exact A_iret rfl dX12_sees_37
    · refine A_aload_n dX12_sees_27 rfl ?_
      refine A_iload_n dX12_sees_28 rfl ?_
      refine A_iload_n dX12_sees_29 rfl ?_
      refine A_callVi (a_X12_seesOf (l := l) fu _ _ _ ) lc_X12_432 rfl rfl (by decide) (Nat.le_of_ble_eq_true rfl) rfl dX12_sees_30 (fun q1 Mq1 hq1 => ?_)
      refine A_goto (tgt := 37) dX12_sees_33 (by decide) ?_
      exact A_iret rfl dX12_sees_37
theorem a_X12_sees {l : Launch} (fu : Nat)  (x1 : Int32) (x2 : Int32) (M : xM)  : AM SM l yX12_sees cX12_sees 3 (some .int) 6 ki [xr 0, xi x1, xi x2] M (F_X12_sees fu x1 x2  M) :=
  AM.of (L0 := [some (xr 0), some (xi x1), some (xi x2)]) (w_X12_sees (l := l) fu x1 x2  M ) (by decide +kernel) rfl (Nat.le_of_ble_eq_true rfl) ⟨rfl, rfl, rfl, trivial⟩
def F_X12_seenBy_b31 (fu : Nat)  (x1 : Int32) (k4 : Int32 → Int32 → xM → Option (Int32 × xM)) (x3 : Int32) (s0 : Int32) (s1 : Int32) (M : xM) : Option (Int32 × xM) :=
  k4 (s1 ||| s0) (x3 + (1 : Int32)) M
set_option maxRecDepth 100000 in
set_option maxHeartbeats 4000000 in
theorem a_X12_seenBy_b31 {l : Launch} (fu : Nat) (x1 : Int32)  {k4 : Int32 → Int32 → xM → Option (Int32 × xM)} (hk4 : ∀ (b0 : Int32) (b1 : Int32) (M : xM), AW SM l RX12 cX12_seenBy 4 (some .int) 1 ki (k4 b0 b1 M) 4 [some (xr 0), some (xi x1), some (xi b0), some (xi b1)] [] M) (x3 : Int32) (s0 : Int32) (s1 : Int32) (M : xM)  : AW SM l RX12 cX12_seenBy 4 (some .int) 1 ki (F_X12_seenBy_b31 fu x1 k4 x3 s0 s1 M) 31 [some (xr 0), some (xi x1), none, some (xi x3)] [xi s0, xi s1] M := by
  unfold F_X12_seenBy_b31
  refine A_ior dX12_seenBy_31 ?_
  refine A_istore_n dX12_seenBy_32 (Nat.le_of_ble_eq_true rfl) rfl ?_
  refine A_iinc dX12_seenBy_33 rfl oI_1 (Nat.le_of_ble_eq_true rfl) rfl ?_
  refine A_goto (tgt := 4) dX12_seenBy_36 (by decide) ?_
  exact (hk4 _ _ _).sub ⟨rfl, rfl, rfl, rfl, trivial⟩
def F_X12_seenBy_b4 (fu : Nat)  (x1 : Int32)  : Nat → Int32 → Int32 → xM → Option (Int32 × xM)
  | 0, _, _, _ => none
  | n + 1, x2, x3, M =>
    (if (M 0 49) ≤ x3 then
    some (x2, M)
    else
    (if (P_X12_has x1 x3 M) = 0 then
    F_X12_seenBy_b31 fu x1 (F_X12_seenBy_b4 fu x1 n) x3 (0 : Int32) x2 M
    else
    (if x3 < 0 ∨ 8 ≤ x3.toNatClampNeg then none else
    F_X12_seenBy_b31 fu x1 (F_X12_seenBy_b4 fu x1 n) x3 (M 29 x3.toNatClampNeg) x2 M)))
set_option maxRecDepth 100000 in
set_option maxHeartbeats 4000000 in
theorem a_X12_seenBy_b4 {l : Launch} (fu : Nat) (x1 : Int32)    : ∀ (n : Nat) (x2 : Int32) (x3 : Int32) (M : xM), AW SM l RX12 cX12_seenBy 4 (some .int) 1 ki (F_X12_seenBy_b4 fu x1 n x2 x3 M) 4 [some (xr 0), some (xi x1), some (xi x2), some (xi x3)] [] M := by
  intro n
  induction n with
  | zero =>
    intro x2 x3 M
    exact AW.none
  | succ n ih =>
    intro x2 x3 M
    rw [F_X12_seenBy_b4]
    refine A_iload_n dX12_seenBy_4 rfl ?_
    refine A_aload_n dX12_seenBy_5 rfl ?_
    refine A_geti lf_X12_420 rfl rfl dX12_seenBy_6 ?_
    refine A_icmp_ge (tgt := 39) dX12_seenBy_9 (by decide) (fun _ => ?_) (fun _ => ?_)
    · refine A_iload_n dX12_seenBy_39 rfl ?_
      exact A_iret rfl dX12_seenBy_40
    · refine A_iload_n dX12_seenBy_12 rfl ?_
      refine A_iload_n dX12_seenBy_13 rfl ?_
      refine A_iload_n dX12_seenBy_14 rfl ?_
      refine A_callSp (a_X12_has (l := l) _ _ _ ) lc_X12_200 rfl (by decide) (Nat.le_of_ble_eq_true rfl) rfl dX12_seenBy_15 ?_
      refine A_if_eq (tgt := 30) dX12_seenBy_18 (by decide) (fun _ => ?_) (fun _ => ?_)
      · refine A_iconst (v := (0 : Int32)) dX12_seenBy_30 oI_0 ?_
        exact (a_X12_seenBy_b31 (l := l) fu x1 ih _ _ _ _ ).sub ⟨rfl, rfl, rfl, trivial⟩
      · refine A_aload_n dX12_seenBy_21 rfl ?_
        refine A_getr lf_X12_114 rfl rfl dX12_seenBy_22 ?_
        refine A_iload_n dX12_seenBy_25 rfl ?_
        refine A_iald rfl dX12_seenBy_26 (fun _ => ?_)
        refine A_goto (tgt := 31) dX12_seenBy_27 (by decide) ?_
        exact (a_X12_seenBy_b31 (l := l) fu x1 ih _ _ _ _ ).sub ⟨rfl, rfl, rfl, trivial⟩
def F_X12_seenBy (fu : Nat)  (x1 : Int32)   (M : xM) : Option (Int32 × xM) :=
  F_X12_seenBy_b4 fu x1 fu (0 : Int32) (0 : Int32) M
set_option maxRecDepth 100000 in
set_option maxHeartbeats 4000000 in
theorem w_X12_seenBy {l : Launch} (fu : Nat) (x1 : Int32)     (M : xM)  : AW SM l RX12 cX12_seenBy 4 (some .int) 1 ki (F_X12_seenBy fu x1  M) 0 [some (xr 0), some (xi x1), none, none] [] M := by
  unfold F_X12_seenBy
  refine A_iconst (v := (0 : Int32)) dX12_seenBy_0 oI_0 ?_
  refine A_istore_n dX12_seenBy_1 (Nat.le_of_ble_eq_true rfl) rfl ?_
  refine A_iconst (v := (0 : Int32)) dX12_seenBy_2 oI_0 ?_
  refine A_istore_n dX12_seenBy_3 (Nat.le_of_ble_eq_true rfl) rfl ?_
  exact (a_X12_seenBy_b4 (l := l) fu x1  fu _ _ _).sub ⟨rfl, rfl, rfl, rfl, trivial⟩
theorem a_X12_seenBy {l : Launch} (fu : Nat)  (x1 : Int32) (M : xM)  : AM SM l yX12_seenBy cX12_seenBy 4 (some .int) 1 ki [xr 0, xi x1] M (F_X12_seenBy fu x1  M) :=
  AM.of (L0 := [some (xr 0), some (xi x1), none, none]) (w_X12_seenBy (l := l) fu x1  M ) (by decide +kernel) rfl (Nat.le_of_ble_eq_true rfl) ⟨rfl, rfl, trivial⟩
def F_X12_cover_b99 (fu : Nat)  (x1 : Int32) (k61 : Int32 → Int32 → Int32 → xM → Option (Int32 × xM)) (x2 : Int32) (x3 : Int32) (x4 : Int32) (M : xM) : Option (Int32 × xM) :=
  k61 x2 x3 (x4 + (1 : Int32)) M
set_option maxRecDepth 100000 in
set_option maxHeartbeats 4000000 in
theorem a_X12_cover_b99 {l : Launch} (fu : Nat) (x1 : Int32)  {k61 : Int32 → Int32 → Int32 → xM → Option (Int32 × xM)} (hk61 : ∀ (b0 : Int32) (b1 : Int32) (b2 : Int32) (M : xM), AW SM l RX12 cX12_cover 5 (some .int) 6 ki (k61 b0 b1 b2 M) 61 [some (xr 0), none, some (xi b0), some (xi b1), some (xi b2)] [] M) (x2 : Int32) (x3 : Int32) (x4 : Int32) (M : xM)  : AW SM l RX12 cX12_cover 5 (some .int) 6 ki (F_X12_cover_b99 fu x1 k61 x2 x3 x4 M) 99 [some (xr 0), none, some (xi x2), some (xi x3), some (xi x4)] [] M := by
  unfold F_X12_cover_b99
  refine A_iinc dX12_cover_99 rfl oI_1 (Nat.le_of_ble_eq_true rfl) rfl ?_
  refine A_goto (tgt := 61) dX12_cover_102 (by decide) ?_
  exact (hk61 _ _ _ _).sub ⟨rfl, rfl, rfl, rfl, trivial⟩
def F_X12_cover_b96 (fu : Nat)  (x1 : Int32) (k61 : Int32 → Int32 → Int32 → xM → Option (Int32 × xM)) (x2 : Int32) (x4 : Int32) (M : xM) : Option (Int32 × xM) :=
  F_X12_cover_b99 fu x1 k61 x2 x4 x4 M
set_option maxRecDepth 100000 in
set_option maxHeartbeats 4000000 in
theorem a_X12_cover_b96 {l : Launch} (fu : Nat) (x1 : Int32)  {k61 : Int32 → Int32 → Int32 → xM → Option (Int32 × xM)} (hk61 : ∀ (b0 : Int32) (b1 : Int32) (b2 : Int32) (M : xM), AW SM l RX12 cX12_cover 5 (some .int) 6 ki (k61 b0 b1 b2 M) 61 [some (xr 0), none, some (xi b0), some (xi b1), some (xi b2)] [] M) (x2 : Int32) (x4 : Int32) (M : xM)  : AW SM l RX12 cX12_cover 5 (some .int) 6 ki (F_X12_cover_b96 fu x1 k61 x2 x4 M) 96 [some (xr 0), none, some (xi x2), none, some (xi x4)] [] M := by
  unfold F_X12_cover_b96
  refine A_iload dX12_cover_96 rfl ?_
  refine A_istore_n dX12_cover_98 (Nat.le_of_ble_eq_true rfl) rfl ?_
  exact (a_X12_cover_b99 (l := l) fu x1 hk61 _ _ _ _ ).sub ⟨rfl, rfl, rfl, rfl, trivial⟩
def F_X12_cover_b61 (fu : Nat)  (x1 : Int32)  : Nat → Int32 → Int32 → Int32 → xM → Option (Int32 × xM)
  | 0, _, _, _, _ => none
  | n + 1, x2, x3, x4, M =>
    (if ((1 : Int32) <<< ((M 0 49) &&& 31)) ≤ x4 then
    some (x3, M)
    else
    (F_X12_seenBy fu x4 M).bind fun q1 =>
    (if q1.1 = x2 then
    (if x3 = (-1 : Int32) then
    F_X12_cover_b96 fu x1 (F_X12_cover_b61 fu x1 n) x2 x4 q1.2
    else
    (if (P_X12_isBefore x4 x3 q1.2) = 0 then
    F_X12_cover_b99 fu x1 (F_X12_cover_b61 fu x1 n) x2 x3 x4 q1.2
    else
    F_X12_cover_b96 fu x1 (F_X12_cover_b61 fu x1 n) x2 x4 q1.2))
    else
    F_X12_cover_b99 fu x1 (F_X12_cover_b61 fu x1 n) x2 x3 x4 q1.2))
set_option maxRecDepth 100000 in
set_option maxHeartbeats 4000000 in
theorem a_X12_cover_b61 {l : Launch} (fu : Nat) (x1 : Int32)    : ∀ (n : Nat) (x2 : Int32) (x3 : Int32) (x4 : Int32) (M : xM), AW SM l RX12 cX12_cover 5 (some .int) 6 ki (F_X12_cover_b61 fu x1 n x2 x3 x4 M) 61 [some (xr 0), none, some (xi x2), some (xi x3), some (xi x4)] [] M := by
  intro n
  induction n with
  | zero =>
    intro x2 x3 x4 M
    exact AW.none
  | succ n ih =>
    intro x2 x3 x4 M
    rw [F_X12_cover_b61]
    refine A_iload dX12_cover_61 rfl ?_
    refine A_iconst (v := (1 : Int32)) dX12_cover_63 oI_1 ?_
    refine A_aload_n dX12_cover_64 rfl ?_
    refine A_geti lf_X12_420 rfl rfl dX12_cover_65 ?_
    refine A_ishl dX12_cover_68 ?_
    refine A_icmp_ge (tgt := 105) dX12_cover_69 (by decide) (fun _ => ?_) (fun _ => ?_)
    · refine A_iload_n dX12_cover_105 rfl ?_
      exact A_iret rfl dX12_cover_106
    · refine A_aload_n dX12_cover_72 rfl ?_
      refine A_iload dX12_cover_73 rfl ?_
      refine A_callVi (a_X12_seenBy (l := l) fu _ _ ) lc_X12_435 rfl rfl (by decide) (Nat.le_of_ble_eq_true rfl) rfl dX12_cover_75 (fun q1 Mq1 hq1 => ?_)
      refine A_iload_n dX12_cover_78 rfl ?_
      refine A_icmp_ne (tgt := 99) dX12_cover_79 (by decide) (fun _ => ?_) (fun _ => ?_)
      · refine A_iload_n dX12_cover_82 rfl ?_
        refine A_iconst (v := (-1 : Int32)) dX12_cover_83 oI_m1 ?_
        refine A_icmp_eq (tgt := 96) dX12_cover_84 (by decide) (fun _ => ?_) (fun _ => ?_)
        · exact (a_X12_cover_b96 (l := l) fu x1 ih _ _ _ ).sub ⟨rfl, rfl, rfl, trivial⟩
        · refine A_iload dX12_cover_87 rfl ?_
          refine A_iload_n dX12_cover_89 rfl ?_
          refine A_callSp (a_X12_isBefore (l := l) _ _ _ ) lc_X12_213 rfl (by decide) (Nat.le_of_ble_eq_true rfl) rfl dX12_cover_90 ?_
          refine A_if_eq (tgt := 99) dX12_cover_93 (by decide) (fun _ => ?_) (fun _ => ?_)
          · exact (a_X12_cover_b99 (l := l) fu x1 ih _ _ _ _ ).sub ⟨rfl, rfl, rfl, rfl, trivial⟩
          · exact (a_X12_cover_b96 (l := l) fu x1 ih _ _ _ ).sub ⟨rfl, rfl, rfl, trivial⟩
      · exact (a_X12_cover_b99 (l := l) fu x1 ih _ _ _ _ ).sub ⟨rfl, rfl, rfl, rfl, trivial⟩
def F_X12_cover_b17 (fu : Nat)  (x1 : Int32)  : Nat → Int32 → xM → Option (Int32 × xM)
  | 0, _, _ => none
  | n + 1, x2, M =>
    (if (M 0 49) ≤ x2 then
    (F_X12_seenBy fu (((1 : Int32) <<< ((M 0 49) &&& 31)) - (1 : Int32)) M).bind fun q1 =>
    F_X12_cover_b61 fu x1 fu q1.1 (-1 : Int32) (0 : Int32) q1.2
    else
    (F_X12_seesOf fu x2 x1 M).bind fun q2 =>
    (if x2 < 0 ∨ 8 ≤ x2.toNatClampNeg then none else
    F_X12_cover_b17 fu x1 n (x2 + (1 : Int32)) (xset q2.2 29 x2.toNatClampNeg q2.1)))
set_option maxRecDepth 100000 in
set_option maxHeartbeats 4000000 in
theorem a_X12_cover_b17 {l : Launch} (fu : Nat) (x1 : Int32)    : ∀ (n : Nat) (x2 : Int32) (M : xM), AW SM l RX12 cX12_cover 5 (some .int) 6 ki (F_X12_cover_b17 fu x1 n x2 M) 17 [some (xr 0), some (xi x1), some (xi x2), none, none] [] M := by
  intro n
  induction n with
  | zero =>
    intro x2 M
    exact AW.none
  | succ n ih =>
    intro x2 M
    rw [F_X12_cover_b17]
    refine A_iload_n dX12_cover_17 rfl ?_
    refine A_aload_n dX12_cover_18 rfl ?_
    refine A_geti lf_X12_420 rfl rfl dX12_cover_19 ?_
    refine A_icmp_ge (tgt := 43) dX12_cover_22 (by decide) (fun _ => ?_) (fun _ => ?_)
    · refine A_aload_n dX12_cover_43 rfl ?_
      refine A_iconst (v := (1 : Int32)) dX12_cover_44 oI_1 ?_
      refine A_aload_n dX12_cover_45 rfl ?_
      refine A_geti lf_X12_420 rfl rfl dX12_cover_46 ?_
      refine A_ishl dX12_cover_49 ?_
      refine A_iconst (v := (1 : Int32)) dX12_cover_50 oI_1 ?_
      refine A_isub dX12_cover_51 ?_
      refine A_callVi (a_X12_seenBy (l := l) fu _ _ ) lc_X12_435 rfl rfl (by decide) (Nat.le_of_ble_eq_true rfl) rfl dX12_cover_52 (fun q1 Mq1 hq1 => ?_)
      refine A_istore_n dX12_cover_55 (Nat.le_of_ble_eq_true rfl) rfl ?_
      refine A_iconst (v := (-1 : Int32)) dX12_cover_56 oI_m1 ?_
      refine A_istore_n dX12_cover_57 (Nat.le_of_ble_eq_true rfl) rfl ?_
      refine A_iconst (v := (0 : Int32)) dX12_cover_58 oI_0 ?_
      refine A_istore dX12_cover_59 (Nat.le_of_ble_eq_true rfl) rfl ?_
      exact (a_X12_cover_b61 (l := l) fu x1  fu _ _ _ _).sub ⟨rfl, rfl, rfl, rfl, trivial⟩
    · refine A_aload_n dX12_cover_25 rfl ?_
      refine A_getr lf_X12_114 rfl rfl dX12_cover_26 ?_
      refine A_iload_n dX12_cover_29 rfl ?_
      refine A_aload_n dX12_cover_30 rfl ?_
      refine A_iload_n dX12_cover_31 rfl ?_
      refine A_iload_n dX12_cover_32 rfl ?_
      refine A_callVi (a_X12_seesOf (l := l) fu _ _ _ ) lc_X12_432 rfl rfl (by decide) (Nat.le_of_ble_eq_true rfl) rfl dX12_cover_33 (fun q2 Mq2 hq2 => ?_)
      refine A_iast rfl dX12_cover_36 (fun _ => ?_)
      refine A_iinc dX12_cover_37 rfl oI_1 (Nat.le_of_ble_eq_true rfl) rfl ?_
      refine A_goto (tgt := 17) dX12_cover_40 (by decide) ?_
      exact (ih _ _).sub ⟨rfl, rfl, rfl, trivial⟩
def F_X12_cover (fu : Nat)  (x1 : Int32)   (M : xM) : Option (Int32 × xM) :=
  (if (P_X12_isMachine x1 (xset M 0 0 (0 : Int32))) = 0 then
  some ((-1 : Int32), (xset M 0 0 (0 : Int32)))
  else
  F_X12_cover_b17 fu x1 fu (0 : Int32) (xset M 0 0 (0 : Int32)))
set_option maxRecDepth 100000 in
set_option maxHeartbeats 4000000 in
theorem w_X12_cover {l : Launch} (fu : Nat) (x1 : Int32)     (M : xM)  : AW SM l RX12 cX12_cover 5 (some .int) 6 ki (F_X12_cover fu x1  M) 0 [some (xr 0), some (xi x1), none, none, none] [] M := by
  unfold F_X12_cover
  refine A_aload_n dX12_cover_0 rfl ?_
  refine A_iconst (v := (0 : Int32)) dX12_cover_1 oI_0 ?_
  refine A_puti lf_X12_180 rfl rfl dX12_cover_2 ?_
  refine A_aload_n dX12_cover_5 rfl ?_
  refine A_iload_n dX12_cover_6 rfl ?_
  refine A_callVp (a_X12_isMachine (l := l) _ _ ) lc_X12_337 rfl rfl (by decide) (Nat.le_of_ble_eq_true rfl) rfl dX12_cover_7 ?_
  refine A_if_ne (tgt := 15) dX12_cover_10 (by decide) (fun _ => ?_) (fun _ => ?_)
  · refine A_iconst (v := (-1 : Int32)) dX12_cover_13 oI_m1 ?_
    exact A_iret rfl dX12_cover_14
  · refine A_iconst (v := (0 : Int32)) dX12_cover_15 oI_0 ?_
    refine A_istore_n dX12_cover_16 (Nat.le_of_ble_eq_true rfl) rfl ?_
    exact (a_X12_cover_b17 (l := l) fu x1  fu _ _).sub ⟨rfl, rfl, rfl, trivial⟩
theorem a_X12_cover {l : Launch} (fu : Nat)  (x1 : Int32) (M : xM)  : AM SM l yX12_cover cX12_cover 5 (some .int) 6 ki [xr 0, xi x1] M (F_X12_cover fu x1  M) :=
  AM.of (L0 := [some (xr 0), some (xi x1), none, none, none]) (w_X12_cover (l := l) fu x1  M ) (by decide +kernel) rfl (Nat.le_of_ble_eq_true rfl) ⟨rfl, rfl, trivial⟩
def F_X12_layNames_b52 (fu : Nat)  (x1 : Int32) (x2 : Int64) (k8 : Int32 → xM → Option (xM)) (x4 : Int32) (M : xM) : Option (xM) :=
  k8 (x4 + (1 : Int32)) M
set_option maxRecDepth 100000 in
set_option maxHeartbeats 4000000 in
theorem a_X12_layNames_b52 {l : Launch} (fu : Nat) (x1 : Int32) (x2 : Int64)  {k8 : Int32 → xM → Option (xM)} (hk8 : ∀ (b0 : Int32) (M : xM), AW SM l RX12 cX12_layNames 9 none 0 kv (k8 b0 M) 8 [some (xr 0), some (xi x1), some (xl x2), none, some (xi b0), none, none, none, none] [] M) (x4 : Int32) (M : xM)  : AW SM l RX12 cX12_layNames 9 none 0 kv (F_X12_layNames_b52 fu x1 x2 k8 x4 M) 52 [some (xr 0), some (xi x1), some (xl x2), none, some (xi x4), none, none, none, none] [] M := by
  unfold F_X12_layNames_b52
  refine A_iinc dX12_layNames_52 rfl oI_1 (Nat.le_of_ble_eq_true rfl) rfl ?_
  refine A_goto (tgt := 8) dX12_layNames_55 (by decide) ?_
  exact (hk8 _ _).sub ⟨rfl, rfl, rfl, rfl, trivial⟩
def F_X12_layNames_b69 (fu : Nat)  (x1 : Int32) (x2 : Int64)  : Nat → Int64 → Int32 → xM → Option (xM)
  | 0, _, _, _ => none
  | n + 1, x4, x6, M =>
    (if x6 ≤ 0 then
    some M
    else
    if (x6 + (1 : Int32)).toInt64 = 0 then none else
    (if x6 < 0 ∨ 16 ≤ x6.toNatClampNeg then none else
    (if (((((x4 * (6364136223846793005 : Int64)) + (1442695040888963407 : Int64)).toUInt64 >>> ((33 : Int32).toInt64.toUInt64 &&& Int64.toUInt64 63)).toInt64) - ((((x4 * (6364136223846793005 : Int64)) + (1442695040888963407 : Int64)).toUInt64 >>> ((33 : Int32).toInt64.toUInt64 &&& Int64.toUInt64 63)).toInt64) / (x6 + (1 : Int32)).toInt64 * (x6 + (1 : Int32)).toInt64).toInt32 < 0 ∨ 16 ≤ ((((((x4 * (6364136223846793005 : Int64)) + (1442695040888963407 : Int64)).toUInt64 >>> ((33 : Int32).toInt64.toUInt64 &&& Int64.toUInt64 63)).toInt64) - ((((x4 * (6364136223846793005 : Int64)) + (1442695040888963407 : Int64)).toUInt64 >>> ((33 : Int32).toInt64.toUInt64 &&& Int64.toUInt64 63)).toInt64) / (x6 + (1 : Int32)).toInt64 * (x6 + (1 : Int32)).toInt64).toInt32).toNatClampNeg then none else
    (if x6 < 0 ∨ 16 ≤ x6.toNatClampNeg then none else
    (if (((((x4 * (6364136223846793005 : Int64)) + (1442695040888963407 : Int64)).toUInt64 >>> ((33 : Int32).toInt64.toUInt64 &&& Int64.toUInt64 63)).toInt64) - ((((x4 * (6364136223846793005 : Int64)) + (1442695040888963407 : Int64)).toUInt64 >>> ((33 : Int32).toInt64.toUInt64 &&& Int64.toUInt64 63)).toInt64) / (x6 + (1 : Int32)).toInt64 * (x6 + (1 : Int32)).toInt64).toInt32 < 0 ∨ 16 ≤ ((((((x4 * (6364136223846793005 : Int64)) + (1442695040888963407 : Int64)).toUInt64 >>> ((33 : Int32).toInt64.toUInt64 &&& Int64.toUInt64 63)).toInt64) - ((((x4 * (6364136223846793005 : Int64)) + (1442695040888963407 : Int64)).toUInt64 >>> ((33 : Int32).toInt64.toUInt64 &&& Int64.toUInt64 63)).toInt64) / (x6 + (1 : Int32)).toInt64 * (x6 + (1 : Int32)).toInt64).toInt32).toNatClampNeg then none else
    F_X12_layNames_b69 fu x1 x2 n ((x4 * (6364136223846793005 : Int64)) + (1442695040888963407 : Int64)) (x6 + (-1 : Int32)) (xset (xset M 30 x6.toNatClampNeg (M 30 ((((((x4 * (6364136223846793005 : Int64)) + (1442695040888963407 : Int64)).toUInt64 >>> ((33 : Int32).toInt64.toUInt64 &&& Int64.toUInt64 63)).toInt64) - ((((x4 * (6364136223846793005 : Int64)) + (1442695040888963407 : Int64)).toUInt64 >>> ((33 : Int32).toInt64.toUInt64 &&& Int64.toUInt64 63)).toInt64) / (x6 + (1 : Int32)).toInt64 * (x6 + (1 : Int32)).toInt64).toInt32).toNatClampNeg)) 30 ((((((x4 * (6364136223846793005 : Int64)) + (1442695040888963407 : Int64)).toUInt64 >>> ((33 : Int32).toInt64.toUInt64 &&& Int64.toUInt64 63)).toInt64) - ((((x4 * (6364136223846793005 : Int64)) + (1442695040888963407 : Int64)).toUInt64 >>> ((33 : Int32).toInt64.toUInt64 &&& Int64.toUInt64 63)).toInt64) / (x6 + (1 : Int32)).toInt64 * (x6 + (1 : Int32)).toInt64).toInt32).toNatClampNeg (M 30 x6.toNatClampNeg)))))))
set_option maxRecDepth 100000 in
set_option maxHeartbeats 4000000 in
theorem a_X12_layNames_b69 {l : Launch} (fu : Nat) (x1 : Int32) (x2 : Int64)    : ∀ (n : Nat) (x4 : Int64) (x6 : Int32) (M : xM), AW SM l RX12 cX12_layNames 9 none 0 kv (F_X12_layNames_b69 fu x1 x2 n x4 x6 M) 69 [some (xr 0), none, none, none, some (xl x4), none, some (xi x6), none, none] [] M := by
  intro n
  induction n with
  | zero =>
    intro x4 x6 M
    exact AW.none
  | succ n ih =>
    intro x4 x6 M
    rw [F_X12_layNames_b69]
    refine A_iload dX12_layNames_69 rfl ?_
    refine A_if_le (tgt := 138) dX12_layNames_71 (by decide) (fun _ => ?_) (fun _ => ?_)
    · exact A_vret rfl dX12_layNames_138
    · refine A_lload dX12_layNames_74 rfl ?_
      refine A_ldc2 (v := (6364136223846793005 : Int64)) dX12_layNames_76 lk_X12_441 ?_
      refine A_lmul dX12_layNames_79 ?_
      refine A_ldc2 (v := (1442695040888963407 : Int64)) dX12_layNames_80 lk_X12_443 ?_
      refine A_ladd dX12_layNames_83 ?_
      refine A_lstore dX12_layNames_84 (Nat.le_of_ble_eq_true rfl) rfl ?_
      refine A_lload dX12_layNames_86 rfl ?_
      refine A_bipush (v := (33 : Int32)) dX12_layNames_88 oB_33 ?_
      refine A_lushr dX12_layNames_90 ?_
      refine A_iload dX12_layNames_91 rfl ?_
      refine A_iconst (v := (1 : Int32)) dX12_layNames_93 oI_1 ?_
      refine A_iadd dX12_layNames_94 ?_
      refine A_i2l dX12_layNames_95 ?_
      refine A_lrem dX12_layNames_96 (fun _ => ?_)
      refine A_l2i dX12_layNames_97 ?_
      refine A_istore dX12_layNames_98 (Nat.le_of_ble_eq_true rfl) rfl ?_
      refine A_aload_n dX12_layNames_100 rfl ?_
      refine A_getr lf_X12_117 rfl rfl dX12_layNames_101 ?_
      refine A_iload dX12_layNames_104 rfl ?_
      refine A_iald rfl dX12_layNames_106 (fun _ => ?_)
      refine A_istore dX12_layNames_107 (Nat.le_of_ble_eq_true rfl) rfl ?_
      refine A_aload_n dX12_layNames_109 rfl ?_
      refine A_getr lf_X12_117 rfl rfl dX12_layNames_110 ?_
      refine A_iload dX12_layNames_113 rfl ?_
      refine A_aload_n dX12_layNames_115 rfl ?_
      refine A_getr lf_X12_117 rfl rfl dX12_layNames_116 ?_
      refine A_iload dX12_layNames_119 rfl ?_
      refine A_iald rfl dX12_layNames_121 (fun _ => ?_)
      refine A_iast rfl dX12_layNames_122 (fun _ => ?_)
      refine A_aload_n dX12_layNames_123 rfl ?_
      refine A_getr lf_X12_117 rfl rfl dX12_layNames_124 ?_
      refine A_iload dX12_layNames_127 rfl ?_
      refine A_iload dX12_layNames_129 rfl ?_
      refine A_iast rfl dX12_layNames_131 (fun _ => ?_)
      refine A_iinc dX12_layNames_132 rfl oI_m1 (Nat.le_of_ble_eq_true rfl) rfl ?_
      refine A_goto (tgt := 69) dX12_layNames_135 (by decide) ?_
      exact (ih _ _ _).sub ⟨rfl, rfl, rfl, trivial⟩
def F_X12_layNames_b8 (fu : Nat)  (x1 : Int32) (x2 : Int64)  : Nat → Int32 → xM → Option (xM)
  | 0, _, _ => none
  | n + 1, x4, M =>
    (if (M 0 1) ≤ x4 then
    F_X12_layNames_b69 fu x1 x2 fu x2 ((M 0 53) - (1 : Int32)) M
    else
    (if x4 < 0 ∨ 16 ≤ x4.toNatClampNeg then none else
    (if (M 3 x4.toNatClampNeg) = x1 then
    (if (M 0 53) < 0 ∨ 16 ≤ (M 0 53).toNatClampNeg then none else
    F_X12_layNames_b52 fu x1 x2 (F_X12_layNames_b8 fu x1 x2 n) x4 (xset (xset M 30 (M 0 53).toNatClampNeg x4) 0 53 (((xset M 30 (M 0 53).toNatClampNeg x4) 0 53) + (1 : Int32))))
    else
    F_X12_layNames_b52 fu x1 x2 (F_X12_layNames_b8 fu x1 x2 n) x4 M)))
set_option maxRecDepth 100000 in
set_option maxHeartbeats 4000000 in
theorem a_X12_layNames_b8 {l : Launch} (fu : Nat) (x1 : Int32) (x2 : Int64)    : ∀ (n : Nat) (x4 : Int32) (M : xM), AW SM l RX12 cX12_layNames 9 none 0 kv (F_X12_layNames_b8 fu x1 x2 n x4 M) 8 [some (xr 0), some (xi x1), some (xl x2), none, some (xi x4), none, none, none, none] [] M := by
  intro n
  induction n with
  | zero =>
    intro x4 M
    exact AW.none
  | succ n ih =>
    intro x4 M
    rw [F_X12_layNames_b8]
    refine A_iload dX12_layNames_8 rfl ?_
    refine A_aload_n dX12_layNames_10 rfl ?_
    refine A_geti lf_X12_177 rfl rfl dX12_layNames_11 ?_
    refine A_icmp_ge (tgt := 58) dX12_layNames_14 (by decide) (fun _ => ?_) (fun _ => ?_)
    · refine A_lload_n dX12_layNames_58 rfl ?_
      refine A_lstore dX12_layNames_59 (Nat.le_of_ble_eq_true rfl) rfl ?_
      refine A_aload_n dX12_layNames_61 rfl ?_
      refine A_geti lf_X12_438 rfl rfl dX12_layNames_62 ?_
      refine A_iconst (v := (1 : Int32)) dX12_layNames_65 oI_1 ?_
      refine A_isub dX12_layNames_66 ?_
      refine A_istore dX12_layNames_67 (Nat.le_of_ble_eq_true rfl) rfl ?_
      exact (a_X12_layNames_b69 (l := l) fu x1 x2  fu _ _ _).sub ⟨rfl, rfl, rfl, trivial⟩
    · refine A_aload_n dX12_layNames_17 rfl ?_
      refine A_getr lf_X12_16 rfl rfl dX12_layNames_18 ?_
      refine A_iload dX12_layNames_21 rfl ?_
      refine A_iald rfl dX12_layNames_23 (fun _ => ?_)
      refine A_iload_n dX12_layNames_24 rfl ?_
      refine A_icmp_eq (tgt := 31) dX12_layNames_25 (by decide) (fun _ => ?_) (fun _ => ?_)
      · refine A_aload_n dX12_layNames_31 rfl ?_
        refine A_getr lf_X12_117 rfl rfl dX12_layNames_32 ?_
        refine A_aload_n dX12_layNames_35 rfl ?_
        refine A_geti lf_X12_438 rfl rfl dX12_layNames_36 ?_
        refine A_iload dX12_layNames_39 rfl ?_
        refine A_iast rfl dX12_layNames_41 (fun _ => ?_)
        refine A_aload_n dX12_layNames_42 rfl ?_
        refine A_dup dX12_layNames_43 rfl ?_
        refine A_geti lf_X12_438 rfl rfl dX12_layNames_44 ?_
        refine A_iconst (v := (1 : Int32)) dX12_layNames_47 oI_1 ?_
        refine A_iadd dX12_layNames_48 ?_
        refine A_puti lf_X12_438 rfl rfl dX12_layNames_49 ?_
        exact (a_X12_layNames_b52 (l := l) fu x1 x2 ih _ _ ).sub ⟨rfl, rfl, rfl, rfl, trivial⟩
      · refine A_goto (tgt := 52) dX12_layNames_28 (by decide) ?_
        exact (a_X12_layNames_b52 (l := l) fu x1 x2 ih _ _ ).sub ⟨rfl, rfl, rfl, rfl, trivial⟩
def F_X12_layNames (fu : Nat)  (x1 : Int32) (x2 : Int64)   (M : xM) : Option (xM) :=
  F_X12_layNames_b8 fu x1 x2 fu (0 : Int32) (xset M 0 53 (0 : Int32))
set_option maxRecDepth 100000 in
set_option maxHeartbeats 4000000 in
theorem w_X12_layNames {l : Launch} (fu : Nat) (x1 : Int32) (x2 : Int64)     (M : xM)  : AW SM l RX12 cX12_layNames 9 none 0 kv (F_X12_layNames fu x1 x2  M) 0 [some (xr 0), some (xi x1), some (xl x2), none, none, none, none, none, none] [] M := by
  unfold F_X12_layNames
  refine A_aload_n dX12_layNames_0 rfl ?_
  refine A_iconst (v := (0 : Int32)) dX12_layNames_1 oI_0 ?_
  refine A_puti lf_X12_438 rfl rfl dX12_layNames_2 ?_
  refine A_iconst (v := (0 : Int32)) dX12_layNames_5 oI_0 ?_
  refine A_istore dX12_layNames_6 (Nat.le_of_ble_eq_true rfl) rfl ?_
  exact (a_X12_layNames_b8 (l := l) fu x1 x2  fu _ _).sub ⟨rfl, rfl, rfl, rfl, trivial⟩
theorem a_X12_layNames {l : Launch} (fu : Nat)  (x1 : Int32) (x2 : Int64) (M : xM)  : AM SM l yX12_layNames cX12_layNames 9 none 0 kv [xr 0, xi x1, xl x2] M (F_X12_layNames fu x1 x2  M) :=
  AM.of (L0 := [some (xr 0), some (xi x1), some (xl x2), none, none, none, none, none, none]) (w_X12_layNames (l := l) fu x1 x2  M ) (by decide +kernel) rfl (Nat.le_of_ble_eq_true rfl) ⟨rfl, rfl, rfl, trivial⟩
def F_X12_nameAt  (x1 : Int32) (x2 : Int32)   (M : xM) : Option (Int32 × xM) :=
  if (M 0 53) = 0 then none else
  if (M 0 53) = 0 then none else
  (if ((((x1 - x2) - (x1 - x2) / (M 0 53) * (M 0 53)) + (M 0 53)) - (((x1 - x2) - (x1 - x2) / (M 0 53) * (M 0 53)) + (M 0 53)) / (M 0 53) * (M 0 53)) < 0 ∨ 16 ≤ ((((x1 - x2) - (x1 - x2) / (M 0 53) * (M 0 53)) + (M 0 53)) - (((x1 - x2) - (x1 - x2) / (M 0 53) * (M 0 53)) + (M 0 53)) / (M 0 53) * (M 0 53)).toNatClampNeg then none else
  some ((M 30 ((((x1 - x2) - (x1 - x2) / (M 0 53) * (M 0 53)) + (M 0 53)) - (((x1 - x2) - (x1 - x2) / (M 0 53) * (M 0 53)) + (M 0 53)) / (M 0 53) * (M 0 53)).toNatClampNeg), M))
set_option maxRecDepth 100000 in
set_option maxHeartbeats 4000000 in
theorem w_X12_nameAt {l : Launch} (x1 : Int32) (x2 : Int32)     (M : xM)  : AW SM l RX12 cX12_nameAt 3 (some .int) 0 ki (F_X12_nameAt x1 x2  M) 0 [some (xr 0), some (xi x1), some (xi x2)] [] M := by
  unfold F_X12_nameAt
  refine A_aload_n dX12_nameAt_0 rfl ?_
  refine A_getr lf_X12_117 rfl rfl dX12_nameAt_1 ?_
  refine A_iload_n dX12_nameAt_4 rfl ?_
  refine A_iload_n dX12_nameAt_5 rfl ?_
  refine A_isub dX12_nameAt_6 ?_
  refine A_aload_n dX12_nameAt_7 rfl ?_
  refine A_geti lf_X12_438 rfl rfl dX12_nameAt_8 ?_
  refine A_irem dX12_nameAt_11 (fun _ => ?_)
  refine A_aload_n dX12_nameAt_12 rfl ?_
  refine A_geti lf_X12_438 rfl rfl dX12_nameAt_13 ?_
  refine A_iadd dX12_nameAt_16 ?_
  refine A_aload_n dX12_nameAt_17 rfl ?_
  refine A_geti lf_X12_438 rfl rfl dX12_nameAt_18 ?_
  refine A_irem dX12_nameAt_21 (fun _ => ?_)
  refine A_iald rfl dX12_nameAt_22 (fun _ => ?_)
  exact A_iret rfl dX12_nameAt_23
theorem a_X12_nameAt {l : Launch}  (x1 : Int32) (x2 : Int32) (M : xM)  : AM SM l yX12_nameAt cX12_nameAt 3 (some .int) 0 ki [xr 0, xi x1, xi x2] M (F_X12_nameAt  x1 x2  M) :=
  AM.of (L0 := [some (xr 0), some (xi x1), some (xi x2)]) (w_X12_nameAt (l := l) x1 x2  M ) (by decide +kernel) rfl (Nat.le_of_ble_eq_true rfl) ⟨rfl, rfl, rfl, trivial⟩
def F_X12_name (fu : Nat)  (x1 : Int32) (x2 : Int64) (x4 : Int32) (x5 : Int32)   (M : xM) : Option (Int32 × xM) :=
  (if (P_X12_isIn x1 (0 : Int32) (((xset M 0 0 (0 : Int32)) 0 7) - (1 : Int32)) (xset M 0 0 (0 : Int32))) = 0 then
  some ((-1 : Int32), (xset M 0 0 (0 : Int32)))
  else
  (if (P_X12_isIn x4 (0 : Int32) (5 : Int32) (xset M 0 0 (0 : Int32))) = 0 then
  some ((-1 : Int32), (xset M 0 0 (0 : Int32)))
  else
  (if x1 < 0 ∨ 6 ≤ x1.toNatClampNeg then none else
  (if (P_X12_isIn x5 (0 : Int32) ((P_J6_bitCount_0f7a4 ((xset M 0 0 (0 : Int32)) 1 x1.toNatClampNeg) (xset M 0 0 (0 : Int32))) - (1 : Int32)) (xset M 0 0 (0 : Int32))) = 0 then
  some ((-1 : Int32), (xset M 0 0 (0 : Int32)))
  else
  (F_X12_layNames fu x1 x2 (xset M 0 0 (0 : Int32))).bind fun q1 =>
  (F_X12_nameAt x5 x4 q1).bind fun q2 =>
  some (q2.1, q2.2)))))
set_option maxRecDepth 100000 in
set_option maxHeartbeats 4000000 in
theorem w_X12_name {l : Launch} (fu : Nat) (x1 : Int32) (x2 : Int64) (x4 : Int32) (x5 : Int32)     (M : xM)  : AW SM l RX12 cX12_name 6 (some .int) 1 ki (F_X12_name fu x1 x2 x4 x5  M) 0 [some (xr 0), some (xi x1), some (xl x2), none, some (xi x4), some (xi x5)] [] M := by
  unfold F_X12_name
  refine A_aload_n dX12_name_0 rfl ?_
  refine A_iconst (v := (0 : Int32)) dX12_name_1 oI_0 ?_
  refine A_puti lf_X12_180 rfl rfl dX12_name_2 ?_
  refine A_iload_n dX12_name_5 rfl ?_
  refine A_iconst (v := (0 : Int32)) dX12_name_6 oI_0 ?_
  refine A_aload_n dX12_name_7 rfl ?_
  refine A_geti lf_X12_189 rfl rfl dX12_name_8 ?_
  refine A_iconst (v := (1 : Int32)) dX12_name_11 oI_1 ?_
  refine A_isub dX12_name_12 ?_
  refine A_callSp (a_X12_isIn (l := l) _ _ _ _ ) lc_X12_196 rfl (by decide) (Nat.le_of_ble_eq_true rfl) rfl dX12_name_13 ?_
  refine A_if_eq (tgt := 49) dX12_name_16 (by decide) (fun _ => ?_) (fun _ => ?_)
  · refine A_iconst (v := (-1 : Int32)) dX12_name_49 oI_m1 ?_
    exact A_iret rfl dX12_name_50
  · refine A_iload dX12_name_19 rfl ?_
    refine A_iconst (v := (0 : Int32)) dX12_name_21 oI_0 ?_
    refine A_iconst (v := (5 : Int32)) dX12_name_22 oI_5 ?_
    refine A_callSp (a_X12_isIn (l := l) _ _ _ _ ) lc_X12_196 rfl (by decide) (Nat.le_of_ble_eq_true rfl) rfl dX12_name_23 ?_
    refine A_if_eq (tgt := 49) dX12_name_26 (by decide) (fun _ => ?_) (fun _ => ?_)
    · refine A_iconst (v := (-1 : Int32)) dX12_name_49 oI_m1 ?_
      exact A_iret rfl dX12_name_50
    · refine A_iload dX12_name_29 rfl ?_
      refine A_iconst (v := (0 : Int32)) dX12_name_31 oI_0 ?_
      refine A_aload_n dX12_name_32 rfl ?_
      refine A_getr lf_X12_9 rfl rfl dX12_name_33 ?_
      refine A_iload_n dX12_name_36 rfl ?_
      refine A_iald rfl dX12_name_37 (fun _ => ?_)
      refine A_callSp (a_J6_bitCount_0f7a4 (S := SM) (l := l) _ _ ) lc_X12_183 rfl (by decide) (Nat.le_of_ble_eq_true rfl) rfl dX12_name_38 ?_
      refine A_iconst (v := (1 : Int32)) dX12_name_41 oI_1 ?_
      refine A_isub dX12_name_42 ?_
      refine A_callSp (a_X12_isIn (l := l) _ _ _ _ ) lc_X12_196 rfl (by decide) (Nat.le_of_ble_eq_true rfl) rfl dX12_name_43 ?_
      refine A_if_ne (tgt := 51) dX12_name_46 (by decide) (fun _ => ?_) (fun _ => ?_)
      · refine A_iconst (v := (-1 : Int32)) dX12_name_49 oI_m1 ?_
        exact A_iret rfl dX12_name_50
      · refine A_aload_n dX12_name_51 rfl ?_
        refine A_iload_n dX12_name_52 rfl ?_
        refine A_lload_n dX12_name_53 rfl ?_
        refine A_callVv (a_X12_layNames (l := l) fu _ _ _ ) lc_X12_445 rfl rfl (by decide) (Nat.le_of_ble_eq_true rfl) rfl dX12_name_54 (fun q1 hq1 => ?_)
        refine A_aload_n dX12_name_57 rfl ?_
        refine A_iload dX12_name_58 rfl ?_
        refine A_iload dX12_name_60 rfl ?_
        refine A_callVi (a_X12_nameAt (l := l) _ _ _ ) lc_X12_449 rfl rfl (by decide) (Nat.le_of_ble_eq_true rfl) rfl dX12_name_62 (fun q2 Mq2 hq2 => ?_)
        exact A_iret rfl dX12_name_65
theorem a_X12_name {l : Launch} (fu : Nat)  (x1 : Int32) (x2 : Int64) (x4 : Int32) (x5 : Int32) (M : xM)  : AM SM l yX12_name cX12_name 6 (some .int) 1 ki [xr 0, xi x1, xl x2, xi x4, xi x5] M (F_X12_name fu x1 x2 x4 x5  M) :=
  AM.of (L0 := [some (xr 0), some (xi x1), some (xl x2), none, some (xi x4), some (xi x5)]) (w_X12_name (l := l) fu x1 x2 x4 x5  M ) (by decide +kernel) rfl (Nat.le_of_ble_eq_true rfl) ⟨rfl, rfl, rfl, rfl, rfl, trivial⟩
def F_X12_first_b68 (fu : Nat)  (x1 : Int32) (x2 : Int64) (x4 : Int32) (k43 : Int32 → Int32 → xM → Option (Int32 × xM)) (x6 : Int32) (s0 : Int32) (s1 : Int32) (M : xM) : Option (Int32 × xM) :=
  k43 (s1 + s0) (x6 + (1 : Int32)) M
set_option maxRecDepth 100000 in
set_option maxHeartbeats 4000000 in
theorem a_X12_first_b68 {l : Launch} (fu : Nat) (x1 : Int32) (x2 : Int64) (x4 : Int32)  {k43 : Int32 → Int32 → xM → Option (Int32 × xM)} (hk43 : ∀ (b0 : Int32) (b1 : Int32) (M : xM), AW SM l RX12 cX12_first 7 (some .int) 2 ki (k43 b0 b1 M) 43 [some (xr 0), some (xi x1), none, none, some (xi x4), some (xi b0), some (xi b1)] [] M) (x6 : Int32) (s0 : Int32) (s1 : Int32) (M : xM)  : AW SM l RX12 cX12_first 7 (some .int) 2 ki (F_X12_first_b68 fu x1 x2 x4 k43 x6 s0 s1 M) 68 [some (xr 0), some (xi x1), none, none, some (xi x4), none, some (xi x6)] [xi s0, xi s1] M := by
  unfold F_X12_first_b68
  refine A_iadd dX12_first_68 ?_
  refine A_istore dX12_first_69 (Nat.le_of_ble_eq_true rfl) rfl ?_
  refine A_iinc dX12_first_71 rfl oI_1 (Nat.le_of_ble_eq_true rfl) rfl ?_
  refine A_goto (tgt := 43) dX12_first_74 (by decide) ?_
  exact (hk43 _ _ _).sub ⟨rfl, rfl, rfl, rfl, rfl, trivial⟩
def F_X12_first_b43 (fu : Nat)  (x1 : Int32) (x2 : Int64) (x4 : Int32)  : Nat → Int32 → Int32 → xM → Option (Int32 × xM)
  | 0, _, _, _ => none
  | n + 1, x5, x6, M =>
    (if x4 ≤ x6 then
    some (x5, M)
    else
    (F_X12_nameAt (0 : Int32) x6 M).bind fun q1 =>
    (if q1.1 = x1 then
    F_X12_first_b68 fu x1 x2 x4 (F_X12_first_b43 fu x1 x2 x4 n) x6 (1 : Int32) x5 q1.2
    else
    F_X12_first_b68 fu x1 x2 x4 (F_X12_first_b43 fu x1 x2 x4 n) x6 (0 : Int32) x5 q1.2))
set_option maxRecDepth 100000 in
set_option maxHeartbeats 4000000 in
theorem a_X12_first_b43 {l : Launch} (fu : Nat) (x1 : Int32) (x2 : Int64) (x4 : Int32)    : ∀ (n : Nat) (x5 : Int32) (x6 : Int32) (M : xM), AW SM l RX12 cX12_first 7 (some .int) 2 ki (F_X12_first_b43 fu x1 x2 x4 n x5 x6 M) 43 [some (xr 0), some (xi x1), none, none, some (xi x4), some (xi x5), some (xi x6)] [] M := by
  intro n
  induction n with
  | zero =>
    intro x5 x6 M
    exact AW.none
  | succ n ih =>
    intro x5 x6 M
    rw [F_X12_first_b43]
    refine A_iload dX12_first_43 rfl ?_
    refine A_iload dX12_first_45 rfl ?_
    refine A_icmp_ge (tgt := 77) dX12_first_47 (by decide) (fun _ => ?_) (fun _ => ?_)
    · refine A_iload dX12_first_77 rfl ?_
      exact A_iret rfl dX12_first_79
    · refine A_iload dX12_first_50 rfl ?_
      refine A_aload_n dX12_first_52 rfl ?_
      refine A_iconst (v := (0 : Int32)) dX12_first_53 oI_0 ?_
      refine A_iload dX12_first_54 rfl ?_
      refine A_callVi (a_X12_nameAt (l := l) _ _ _ ) lc_X12_449 rfl rfl (by decide) (Nat.le_of_ble_eq_true rfl) rfl dX12_first_56 (fun q1 Mq1 hq1 => ?_)
      refine A_iload_n dX12_first_59 rfl ?_
      refine A_icmp_ne (tgt := 67) dX12_first_60 (by decide) (fun _ => ?_) (fun _ => ?_)
      · refine A_iconst (v := (1 : Int32)) dX12_first_63 oI_1 ?_
        refine A_goto (tgt := 68) dX12_first_64 (by decide) ?_
        exact (a_X12_first_b68 (l := l) fu x1 x2 x4 ih _ _ _ _ ).sub ⟨rfl, rfl, rfl, rfl, trivial⟩
      · refine A_iconst (v := (0 : Int32)) dX12_first_67 oI_0 ?_
        exact (a_X12_first_b68 (l := l) fu x1 x2 x4 ih _ _ _ _ ).sub ⟨rfl, rfl, rfl, rfl, trivial⟩
def F_X12_first (fu : Nat)  (x1 : Int32) (x2 : Int64) (x4 : Int32)   (M : xM) : Option (Int32 × xM) :=
  (F_X12_isOfOffice x1 (xset M 0 0 (0 : Int32))).bind fun q1 =>
  (if q1.1 = 0 then
  some ((-1 : Int32), q1.2)
  else
  (if (P_X12_isIn x4 (1 : Int32) (100 : Int32) q1.2) = 0 then
  some ((-1 : Int32), q1.2)
  else
  (if x1 < 0 ∨ 16 ≤ x1.toNatClampNeg then none else
  (F_X12_layNames fu (q1.2 3 x1.toNatClampNeg) x2 q1.2).bind fun q2 =>
  F_X12_first_b43 fu x1 x2 x4 fu (0 : Int32) (0 : Int32) q2)))
set_option maxRecDepth 100000 in
set_option maxHeartbeats 4000000 in
theorem w_X12_first {l : Launch} (fu : Nat) (x1 : Int32) (x2 : Int64) (x4 : Int32)     (M : xM)  : AW SM l RX12 cX12_first 7 (some .int) 2 ki (F_X12_first fu x1 x2 x4  M) 0 [some (xr 0), some (xi x1), some (xl x2), none, some (xi x4), none, none] [] M := by
  unfold F_X12_first
  refine A_aload_n dX12_first_0 rfl ?_
  refine A_iconst (v := (0 : Int32)) dX12_first_1 oI_0 ?_
  refine A_puti lf_X12_180 rfl rfl dX12_first_2 ?_
  refine A_aload_n dX12_first_5 rfl ?_
  refine A_iload_n dX12_first_6 rfl ?_
  refine A_callVi (a_X12_isOfOffice (l := l) _ _ ) lc_X12_384 rfl rfl (by decide) (Nat.le_of_ble_eq_true rfl) rfl dX12_first_7 (fun q1 Mq1 hq1 => ?_)
  refine A_if_eq (tgt := 24) dX12_first_10 (by decide) (fun _ => ?_) (fun _ => ?_)
  · refine A_iconst (v := (-1 : Int32)) dX12_first_24 oI_m1 ?_
    exact A_iret rfl dX12_first_25
  · refine A_iload dX12_first_13 rfl ?_
    refine A_iconst (v := (1 : Int32)) dX12_first_15 oI_1 ?_
    refine A_bipush (v := (100 : Int32)) dX12_first_16 oB_100 ?_
    refine A_callSp (a_X12_isIn (l := l) _ _ _ _ ) lc_X12_196 rfl (by decide) (Nat.le_of_ble_eq_true rfl) rfl dX12_first_18 ?_
    refine A_if_ne (tgt := 26) dX12_first_21 (by decide) (fun _ => ?_) (fun _ => ?_)
    · refine A_iconst (v := (-1 : Int32)) dX12_first_24 oI_m1 ?_
      exact A_iret rfl dX12_first_25
    · refine A_aload_n dX12_first_26 rfl ?_
      refine A_aload_n dX12_first_27 rfl ?_
      refine A_getr lf_X12_16 rfl rfl dX12_first_28 ?_
      refine A_iload_n dX12_first_31 rfl ?_
      refine A_iald rfl dX12_first_32 (fun _ => ?_)
      refine A_lload_n dX12_first_33 rfl ?_
      refine A_callVv (a_X12_layNames (l := l) fu _ _ _ ) lc_X12_445 rfl rfl (by decide) (Nat.le_of_ble_eq_true rfl) rfl dX12_first_34 (fun q2 hq2 => ?_)
      refine A_iconst (v := (0 : Int32)) dX12_first_37 oI_0 ?_
      refine A_istore dX12_first_38 (Nat.le_of_ble_eq_true rfl) rfl ?_
      refine A_iconst (v := (0 : Int32)) dX12_first_40 oI_0 ?_
      refine A_istore dX12_first_41 (Nat.le_of_ble_eq_true rfl) rfl ?_
      exact (a_X12_first_b43 (l := l) fu x1 x2 x4  fu _ _ _).sub ⟨rfl, rfl, rfl, rfl, rfl, trivial⟩
theorem a_X12_first {l : Launch} (fu : Nat)  (x1 : Int32) (x2 : Int64) (x4 : Int32) (M : xM)  : AM SM l yX12_first cX12_first 7 (some .int) 2 ki [xr 0, xi x1, xl x2, xi x4] M (F_X12_first fu x1 x2 x4  M) :=
  AM.of (L0 := [some (xr 0), some (xi x1), some (xl x2), none, some (xi x4), none, none]) (w_X12_first (l := l) fu x1 x2 x4  M ) (by decide +kernel) rfl (Nat.le_of_ble_eq_true rfl) ⟨rfl, rfl, rfl, rfl, trivial⟩
def F_X12_isText_b68 (fu : Nat)  (x1 : Int32) (k21 : Int32 → xM → Option (Int32 × xM)) (x2 : Int32) (M : xM) : Option (Int32 × xM) :=
  k21 (x2 + (1 : Int32)) M
set_option maxRecDepth 100000 in
set_option maxHeartbeats 4000000 in
theorem a_X12_isText_b68 {l : Launch} (fu : Nat) (x1 : Int32)  {k21 : Int32 → xM → Option (Int32 × xM)} (hk21 : ∀ (b0 : Int32) (M : xM), AW SM l RX12 cX12_isText 3 (some .boolean) 0 ki (k21 b0 M) 21 [some (xr 0), some (xi x1), some (xi b0)] [] M) (x2 : Int32) (M : xM)  : AW SM l RX12 cX12_isText 3 (some .boolean) 0 ki (F_X12_isText_b68 fu x1 k21 x2 M) 68 [some (xr 0), some (xi x1), some (xi x2)] [] M := by
  unfold F_X12_isText_b68
  refine A_iinc dX12_isText_68 rfl oI_1 (Nat.le_of_ble_eq_true rfl) rfl ?_
  refine A_goto (tgt := 21) dX12_isText_71 (by decide) ?_
  exact (hk21 _ _).sub ⟨rfl, rfl, rfl, trivial⟩
def F_X12_isText_b51 (fu : Nat)  (x1 : Int32) (k21 : Int32 → xM → Option (Int32 × xM)) (x2 : Int32) (M : xM) : Option (Int32 × xM) :=
  (if x1 = 0 then
  some ((0 : Int32), M)
  else
  (if x2 < 0 ∨ 120 ≤ x2.toNatClampNeg then none else
  (if (M 7 x2.toNatClampNeg) = (46 : Int32) then
  F_X12_isText_b68 fu x1 k21 x2 M
  else
  some ((0 : Int32), M))))
set_option maxRecDepth 100000 in
set_option maxHeartbeats 4000000 in
theorem a_X12_isText_b51 {l : Launch} (fu : Nat) (x1 : Int32)  {k21 : Int32 → xM → Option (Int32 × xM)} (hk21 : ∀ (b0 : Int32) (M : xM), AW SM l RX12 cX12_isText 3 (some .boolean) 0 ki (k21 b0 M) 21 [some (xr 0), some (xi x1), some (xi b0)] [] M) (x2 : Int32) (M : xM)  : AW SM l RX12 cX12_isText 3 (some .boolean) 0 ki (F_X12_isText_b51 fu x1 k21 x2 M) 51 [some (xr 0), some (xi x1), some (xi x2)] [] M := by
  unfold F_X12_isText_b51
  refine A_iload_n dX12_isText_51 rfl ?_
  refine A_if_eq (tgt := 66) dX12_isText_52 (by decide) (fun _ => ?_) (fun _ => ?_)
  · refine A_iconst (v := (0 : Int32)) dX12_isText_66 oI_0 ?_
    exact A_zret' rfl (Or.inl rfl) dX12_isText_67
  · refine A_aload_n dX12_isText_55 rfl ?_
    refine A_getr lf_X12_29 rfl rfl dX12_isText_56 ?_
    refine A_iload_n dX12_isText_59 rfl ?_
    refine A_bald rfl dX12_isText_60 (fun _ => ?_)
    refine A_bipush (v := (46 : Int32)) dX12_isText_61 oB_46 ?_
    refine A_icmp_eq (tgt := 68) dX12_isText_63 (by decide) (fun _ => ?_) (fun _ => ?_)
    · exact (a_X12_isText_b68 (l := l) fu x1 hk21 _ _ ).sub ⟨rfl, rfl, rfl, trivial⟩
    · refine A_iconst (v := (0 : Int32)) dX12_isText_66 oI_0 ?_
      exact A_zret' rfl (Or.inl rfl) dX12_isText_67
def F_X12_isText_b21 (fu : Nat)  (x1 : Int32)  : Nat → Int32 → xM → Option (Int32 × xM)
  | 0, _, _ => none
  | n + 1, x2, M =>
    (if (M 0 15) ≤ x2 then
    some ((1 : Int32), M)
    else
    (if x2 < 0 ∨ 120 ≤ x2.toNatClampNeg then none else
    (if (M 7 x2.toNatClampNeg) < (97 : Int32) then
    F_X12_isText_b51 fu x1 (F_X12_isText_b21 fu x1 n) x2 M
    else
    (if x2 < 0 ∨ 120 ≤ x2.toNatClampNeg then none else
    (if (M 7 x2.toNatClampNeg) ≤ (122 : Int32) then
    F_X12_isText_b68 fu x1 (F_X12_isText_b21 fu x1 n) x2 M
    else
    F_X12_isText_b51 fu x1 (F_X12_isText_b21 fu x1 n) x2 M)))))
set_option maxRecDepth 100000 in
set_option maxHeartbeats 4000000 in
theorem a_X12_isText_b21 {l : Launch} (fu : Nat) (x1 : Int32)    : ∀ (n : Nat) (x2 : Int32) (M : xM), AW SM l RX12 cX12_isText 3 (some .boolean) 0 ki (F_X12_isText_b21 fu x1 n x2 M) 21 [some (xr 0), some (xi x1), some (xi x2)] [] M := by
  intro n
  induction n with
  | zero =>
    intro x2 M
    exact AW.none
  | succ n ih =>
    intro x2 M
    rw [F_X12_isText_b21]
    refine A_iload_n dX12_isText_21 rfl ?_
    refine A_aload_n dX12_isText_22 rfl ?_
    refine A_geti lf_X12_229 rfl rfl dX12_isText_23 ?_
    refine A_icmp_ge (tgt := 74) dX12_isText_26 (by decide) (fun _ => ?_) (fun _ => ?_)
    · refine A_iconst (v := (1 : Int32)) dX12_isText_74 oI_1 ?_
      exact A_zret' rfl (Or.inr rfl) dX12_isText_75
    · refine A_aload_n dX12_isText_29 rfl ?_
      refine A_getr lf_X12_29 rfl rfl dX12_isText_30 ?_
      refine A_iload_n dX12_isText_33 rfl ?_
      refine A_bald rfl dX12_isText_34 (fun _ => ?_)
      refine A_bipush (v := (97 : Int32)) dX12_isText_35 oB_97 ?_
      refine A_icmp_lt (tgt := 51) dX12_isText_37 (by decide) (fun _ => ?_) (fun _ => ?_)
      · exact (a_X12_isText_b51 (l := l) fu x1 ih _ _ ).sub ⟨rfl, rfl, rfl, trivial⟩
      · refine A_aload_n dX12_isText_40 rfl ?_
        refine A_getr lf_X12_29 rfl rfl dX12_isText_41 ?_
        refine A_iload_n dX12_isText_44 rfl ?_
        refine A_bald rfl dX12_isText_45 (fun _ => ?_)
        refine A_bipush (v := (122 : Int32)) dX12_isText_46 oB_122 ?_
        refine A_icmp_le (tgt := 68) dX12_isText_48 (by decide) (fun _ => ?_) (fun _ => ?_)
        · exact (a_X12_isText_b68 (l := l) fu x1 ih _ _ ).sub ⟨rfl, rfl, rfl, trivial⟩
        · exact (a_X12_isText_b51 (l := l) fu x1 ih _ _ ).sub ⟨rfl, rfl, rfl, trivial⟩
def F_X12_isText (fu : Nat)  (x1 : Int32)   (M : xM) : Option (Int32 × xM) :=
  (if (M 0 15) < (1 : Int32) then
  some ((0 : Int32), M)
  else
  (if (M 0 15) ≤ (8 : Int32) then
  F_X12_isText_b21 fu x1 fu (0 : Int32) M
  else
  some ((0 : Int32), M)))
set_option maxRecDepth 100000 in
set_option maxHeartbeats 4000000 in
theorem w_X12_isText {l : Launch} (fu : Nat) (x1 : Int32)     (M : xM)  : AW SM l RX12 cX12_isText 3 (some .boolean) 0 ki (F_X12_isText fu x1  M) 0 [some (xr 0), some (xi x1), none] [] M := by
  unfold F_X12_isText
  refine A_aload_n dX12_isText_0 rfl ?_
  refine A_geti lf_X12_229 rfl rfl dX12_isText_1 ?_
  refine A_iconst (v := (1 : Int32)) dX12_isText_4 oI_1 ?_
  refine A_icmp_lt (tgt := 17) dX12_isText_5 (by decide) (fun _ => ?_) (fun _ => ?_)
  · refine A_iconst (v := (0 : Int32)) dX12_isText_17 oI_0 ?_
    exact A_zret' rfl (Or.inl rfl) dX12_isText_18
  · refine A_aload_n dX12_isText_8 rfl ?_
    refine A_geti lf_X12_229 rfl rfl dX12_isText_9 ?_
    refine A_bipush (v := (8 : Int32)) dX12_isText_12 oB_8 ?_
    refine A_icmp_le (tgt := 19) dX12_isText_14 (by decide) (fun _ => ?_) (fun _ => ?_)
    · refine A_iconst (v := (0 : Int32)) dX12_isText_19 oI_0 ?_
      refine A_istore_n dX12_isText_20 (Nat.le_of_ble_eq_true rfl) rfl ?_
      exact (a_X12_isText_b21 (l := l) fu x1  fu _ _).sub ⟨rfl, rfl, rfl, trivial⟩
    · refine A_iconst (v := (0 : Int32)) dX12_isText_17 oI_0 ?_
      exact A_zret' rfl (Or.inl rfl) dX12_isText_18
theorem a_X12_isText {l : Launch} (fu : Nat)  (x1 : Int32) (M : xM)  : AM SM l yX12_isText cX12_isText 3 (some .boolean) 0 ki [xr 0, xi x1] M (F_X12_isText fu x1  M) :=
  AM.of (L0 := [some (xr 0), some (xi x1), none]) (w_X12_isText (l := l) fu x1  M ) (by decide +kernel) rfl (Nat.le_of_ble_eq_true rfl) ⟨rfl, rfl, trivial⟩
def F_X12_isTapeName_b17 (fu : Nat)  (x1 : Int32)  : Nat → Int32 → xM → Option (Int32 × xM)
  | 0, _, _ => none
  | n + 1, x2, M =>
    (if (M 0 15) ≤ x2 then
    some ((1 : Int32), M)
    else
    (if (((8 : Int32) * x1) + x2) < 0 ∨ 64 ≤ (((8 : Int32) * x1) + x2).toNatClampNeg then none else
    (if x2 < 0 ∨ 120 ≤ x2.toNatClampNeg then none else
    (if (M 31 (((8 : Int32) * x1) + x2).toNatClampNeg) = (M 7 x2.toNatClampNeg) then
    F_X12_isTapeName_b17 fu x1 n (x2 + (1 : Int32)) M
    else
    some ((0 : Int32), M)))))
set_option maxRecDepth 100000 in
set_option maxHeartbeats 4000000 in
theorem a_X12_isTapeName_b17 {l : Launch} (fu : Nat) (x1 : Int32)    : ∀ (n : Nat) (x2 : Int32) (M : xM), AW SM l RX12 cX12_isTapeName 3 (some .boolean) 0 ki (F_X12_isTapeName_b17 fu x1 n x2 M) 17 [some (xr 0), some (xi x1), some (xi x2)] [] M := by
  intro n
  induction n with
  | zero =>
    intro x2 M
    exact AW.none
  | succ n ih =>
    intro x2 M
    rw [F_X12_isTapeName_b17]
    refine A_iload_n dX12_isTapeName_17 rfl ?_
    refine A_aload_n dX12_isTapeName_18 rfl ?_
    refine A_geti lf_X12_229 rfl rfl dX12_isTapeName_19 ?_
    refine A_icmp_ge (tgt := 53) dX12_isTapeName_22 (by decide) (fun _ => ?_) (fun _ => ?_)
    · refine A_iconst (v := (1 : Int32)) dX12_isTapeName_53 oI_1 ?_
      exact A_zret' rfl (Or.inr rfl) dX12_isTapeName_54
    · refine A_aload_n dX12_isTapeName_25 rfl ?_
      refine A_getr lf_X12_120 rfl rfl dX12_isTapeName_26 ?_
      refine A_bipush (v := (8 : Int32)) dX12_isTapeName_29 oB_8 ?_
      refine A_iload_n dX12_isTapeName_31 rfl ?_
      refine A_imul dX12_isTapeName_32 ?_
      refine A_iload_n dX12_isTapeName_33 rfl ?_
      refine A_iadd dX12_isTapeName_34 ?_
      refine A_bald rfl dX12_isTapeName_35 (fun _ => ?_)
      refine A_aload_n dX12_isTapeName_36 rfl ?_
      refine A_getr lf_X12_29 rfl rfl dX12_isTapeName_37 ?_
      refine A_iload_n dX12_isTapeName_40 rfl ?_
      refine A_bald rfl dX12_isTapeName_41 (fun _ => ?_)
      refine A_icmp_eq (tgt := 47) dX12_isTapeName_42 (by decide) (fun _ => ?_) (fun _ => ?_)
      · refine A_iinc dX12_isTapeName_47 rfl oI_1 (Nat.le_of_ble_eq_true rfl) rfl ?_
        refine A_goto (tgt := 17) dX12_isTapeName_50 (by decide) ?_
        exact (ih _ _).sub ⟨rfl, rfl, rfl, trivial⟩
      · refine A_iconst (v := (0 : Int32)) dX12_isTapeName_45 oI_0 ?_
        exact A_zret' rfl (Or.inl rfl) dX12_isTapeName_46
def F_X12_isTapeName (fu : Nat)  (x1 : Int32)   (M : xM) : Option (Int32 × xM) :=
  (if x1 < 0 ∨ 8 ≤ x1.toNatClampNeg then none else
  (if (M 33 x1.toNatClampNeg) = (M 0 15) then
  F_X12_isTapeName_b17 fu x1 fu (0 : Int32) M
  else
  some ((0 : Int32), M)))
set_option maxRecDepth 100000 in
set_option maxHeartbeats 4000000 in
theorem w_X12_isTapeName {l : Launch} (fu : Nat) (x1 : Int32)     (M : xM)  : AW SM l RX12 cX12_isTapeName 3 (some .boolean) 0 ki (F_X12_isTapeName fu x1  M) 0 [some (xr 0), some (xi x1), none] [] M := by
  unfold F_X12_isTapeName
  refine A_aload_n dX12_isTapeName_0 rfl ?_
  refine A_getr lf_X12_126 rfl rfl dX12_isTapeName_1 ?_
  refine A_iload_n dX12_isTapeName_4 rfl ?_
  refine A_iald rfl dX12_isTapeName_5 (fun _ => ?_)
  refine A_aload_n dX12_isTapeName_6 rfl ?_
  refine A_geti lf_X12_229 rfl rfl dX12_isTapeName_7 ?_
  refine A_icmp_eq (tgt := 15) dX12_isTapeName_10 (by decide) (fun _ => ?_) (fun _ => ?_)
  · refine A_iconst (v := (0 : Int32)) dX12_isTapeName_15 oI_0 ?_
    refine A_istore_n dX12_isTapeName_16 (Nat.le_of_ble_eq_true rfl) rfl ?_
    exact (a_X12_isTapeName_b17 (l := l) fu x1  fu _ _).sub ⟨rfl, rfl, rfl, trivial⟩
  · refine A_iconst (v := (0 : Int32)) dX12_isTapeName_13 oI_0 ?_
    exact A_zret' rfl (Or.inl rfl) dX12_isTapeName_14
theorem a_X12_isTapeName {l : Launch} (fu : Nat)  (x1 : Int32) (M : xM)  : AM SM l yX12_isTapeName cX12_isTapeName 3 (some .boolean) 0 ki [xr 0, xi x1] M (F_X12_isTapeName fu x1  M) :=
  AM.of (L0 := [some (xr 0), some (xi x1), none]) (w_X12_isTapeName (l := l) fu x1  M ) (by decide +kernel) rfl (Nat.le_of_ble_eq_true rfl) ⟨rfl, rfl, trivial⟩
def F_X12_known_b52 (fu : Nat)    : Nat → Int32 → xM → Option (Int32 × xM)
  | 0, _, _ => none
  | n + 1, x1, M =>
    (if (M 0 15) ≤ x1 then
    (if (M 0 58) < 0 ∨ 8 ≤ (M 0 58).toNatClampNeg then none else
    some ((((xset (xset (xset M 33 (M 0 58).toNatClampNeg (M 0 15)) 0 15 (0 : Int32)) 0 58 (((xset (xset M 33 (M 0 58).toNatClampNeg (M 0 15)) 0 15 (0 : Int32)) 0 58) + (1 : Int32))) 0 58) - (1 : Int32)), (xset (xset (xset M 33 (M 0 58).toNatClampNeg (M 0 15)) 0 15 (0 : Int32)) 0 58 (((xset (xset M 33 (M 0 58).toNatClampNeg (M 0 15)) 0 15 (0 : Int32)) 0 58) + (1 : Int32)))))
    else
    (if x1 < 0 ∨ 120 ≤ x1.toNatClampNeg then none else
    (if (((8 : Int32) * (M 0 58)) + x1) < 0 ∨ 64 ≤ (((8 : Int32) * (M 0 58)) + x1).toNatClampNeg then none else
    F_X12_known_b52 fu n (x1 + (1 : Int32)) (xset M 31 (((8 : Int32) * (M 0 58)) + x1).toNatClampNeg (vp_nar .byte (M 7 x1.toNatClampNeg))))))
set_option maxRecDepth 100000 in
set_option maxHeartbeats 4000000 in
theorem a_X12_known_b52 {l : Launch} (fu : Nat)     : ∀ (n : Nat) (x1 : Int32) (M : xM), AW SM l RX12 cX12_known 2 (some .int) 1 ki (F_X12_known_b52 fu n x1 M) 52 [some (xr 0), some (xi x1)] [] M := by
  intro n
  induction n with
  | zero =>
    intro x1 M
    exact AW.none
  | succ n ih =>
    intro x1 M
    rw [F_X12_known_b52]
    refine A_iload_n dX12_known_52 rfl ?_
    refine A_aload_n dX12_known_53 rfl ?_
    refine A_geti lf_X12_229 rfl rfl dX12_known_54 ?_
    refine A_icmp_ge (tgt := 86) dX12_known_57 (by decide) (fun _ => ?_) (fun _ => ?_)
    · refine A_aload_n dX12_known_86 rfl ?_
      refine A_getr lf_X12_126 rfl rfl dX12_known_87 ?_
      refine A_aload_n dX12_known_90 rfl ?_
      refine A_geti lf_X12_452 rfl rfl dX12_known_91 ?_
      refine A_aload_n dX12_known_94 rfl ?_
      refine A_geti lf_X12_229 rfl rfl dX12_known_95 ?_
      refine A_iast rfl dX12_known_98 (fun _ => ?_)
      refine A_aload_n dX12_known_99 rfl ?_
      refine A_iconst (v := (0 : Int32)) dX12_known_100 oI_0 ?_
      refine A_puti lf_X12_229 rfl rfl dX12_known_101 ?_
      refine A_aload_n dX12_known_104 rfl ?_
      refine A_dup dX12_known_105 rfl ?_
      refine A_geti lf_X12_452 rfl rfl dX12_known_106 ?_
      refine A_iconst (v := (1 : Int32)) dX12_known_109 oI_1 ?_
      refine A_iadd dX12_known_110 ?_
      refine A_puti lf_X12_452 rfl rfl dX12_known_111 ?_
      refine A_aload_n dX12_known_114 rfl ?_
      refine A_geti lf_X12_452 rfl rfl dX12_known_115 ?_
      refine A_iconst (v := (1 : Int32)) dX12_known_118 oI_1 ?_
      refine A_isub dX12_known_119 ?_
      exact A_iret rfl dX12_known_120
    · refine A_aload_n dX12_known_60 rfl ?_
      refine A_getr lf_X12_120 rfl rfl dX12_known_61 ?_
      refine A_bipush (v := (8 : Int32)) dX12_known_64 oB_8 ?_
      refine A_aload_n dX12_known_66 rfl ?_
      refine A_geti lf_X12_452 rfl rfl dX12_known_67 ?_
      refine A_imul dX12_known_70 ?_
      refine A_iload_n dX12_known_71 rfl ?_
      refine A_iadd dX12_known_72 ?_
      refine A_aload_n dX12_known_73 rfl ?_
      refine A_getr lf_X12_29 rfl rfl dX12_known_74 ?_
      refine A_iload_n dX12_known_77 rfl ?_
      refine A_bald rfl dX12_known_78 (fun _ => ?_)
      refine A_bast rfl dX12_known_79 (fun _ => ?_)
      refine A_iinc dX12_known_80 rfl oI_1 (Nat.le_of_ble_eq_true rfl) rfl ?_
      refine A_goto (tgt := 52) dX12_known_83 (by decide) ?_
      exact (ih _ _).sub ⟨rfl, rfl, trivial⟩
def F_X12_known_b26 (fu : Nat)    : Nat → Int32 → xM → Option (Int32 × xM)
  | 0, _, _ => none
  | n + 1, x1, M =>
    (if (M 0 58) ≤ x1 then
    F_X12_known_b52 fu fu (0 : Int32) M
    else
    (F_X12_isTapeName fu x1 M).bind fun q1 =>
    (if q1.1 = 0 then
    F_X12_known_b26 fu n (x1 + (1 : Int32)) q1.2
    else
    some ((-1 : Int32), q1.2)))
set_option maxRecDepth 100000 in
set_option maxHeartbeats 4000000 in
theorem a_X12_known_b26 {l : Launch} (fu : Nat)     : ∀ (n : Nat) (x1 : Int32) (M : xM), AW SM l RX12 cX12_known 2 (some .int) 1 ki (F_X12_known_b26 fu n x1 M) 26 [some (xr 0), some (xi x1)] [] M := by
  intro n
  induction n with
  | zero =>
    intro x1 M
    exact AW.none
  | succ n ih =>
    intro x1 M
    rw [F_X12_known_b26]
    refine A_iload_n dX12_known_26 rfl ?_
    refine A_aload_n dX12_known_27 rfl ?_
    refine A_geti lf_X12_452 rfl rfl dX12_known_28 ?_
    refine A_icmp_ge (tgt := 50) dX12_known_31 (by decide) (fun _ => ?_) (fun _ => ?_)
    · refine A_iconst (v := (0 : Int32)) dX12_known_50 oI_0 ?_
      refine A_istore_n dX12_known_51 (Nat.le_of_ble_eq_true rfl) rfl ?_
      exact (a_X12_known_b52 (l := l) fu  fu _ _).sub ⟨rfl, rfl, trivial⟩
    · refine A_aload_n dX12_known_34 rfl ?_
      refine A_iload_n dX12_known_35 rfl ?_
      refine A_callVi (a_X12_isTapeName (l := l) fu _ _ ) lc_X12_459 rfl rfl (by decide) (Nat.le_of_ble_eq_true rfl) rfl dX12_known_36 (fun q1 Mq1 hq1 => ?_)
      refine A_if_eq (tgt := 44) dX12_known_39 (by decide) (fun _ => ?_) (fun _ => ?_)
      · refine A_iinc dX12_known_44 rfl oI_1 (Nat.le_of_ble_eq_true rfl) rfl ?_
        refine A_goto (tgt := 26) dX12_known_47 (by decide) ?_
        exact (ih _ _).sub ⟨rfl, rfl, trivial⟩
      · refine A_iconst (v := (-1 : Int32)) dX12_known_42 oI_m1 ?_
        exact A_iret rfl dX12_known_43
def F_X12_known (fu : Nat)     (M : xM) : Option (Int32 × xM) :=
  (if ((xset M 0 0 (0 : Int32)) 0 58) = (8 : Int32) then
  some ((-1 : Int32), (xset M 0 0 (0 : Int32)))
  else
  (F_X12_isText fu (0 : Int32) (xset M 0 0 (0 : Int32))).bind fun q1 =>
  (if q1.1 = 0 then
  some ((-1 : Int32), q1.2)
  else
  F_X12_known_b26 fu fu (0 : Int32) q1.2))
set_option maxRecDepth 100000 in
set_option maxHeartbeats 4000000 in
theorem w_X12_known {l : Launch} (fu : Nat)      (M : xM)  : AW SM l RX12 cX12_known 2 (some .int) 1 ki (F_X12_known fu  M) 0 [some (xr 0), none] [] M := by
  unfold F_X12_known
  refine A_aload_n dX12_known_0 rfl ?_
  refine A_iconst (v := (0 : Int32)) dX12_known_1 oI_0 ?_
  refine A_puti lf_X12_180 rfl rfl dX12_known_2 ?_
  refine A_aload_n dX12_known_5 rfl ?_
  refine A_geti lf_X12_452 rfl rfl dX12_known_6 ?_
  refine A_bipush (v := (8 : Int32)) dX12_known_9 oB_8 ?_
  refine A_icmp_eq (tgt := 22) dX12_known_11 (by decide) (fun _ => ?_) (fun _ => ?_)
  · refine A_iconst (v := (-1 : Int32)) dX12_known_22 oI_m1 ?_
    exact A_iret rfl dX12_known_23
  · refine A_aload_n dX12_known_14 rfl ?_
    refine A_iconst (v := (0 : Int32)) dX12_known_15 oI_0 ?_
    refine A_callVi (a_X12_isText (l := l) fu _ _ ) lc_X12_455 rfl rfl (by decide) (Nat.le_of_ble_eq_true rfl) rfl dX12_known_16 (fun q1 Mq1 hq1 => ?_)
    refine A_if_ne (tgt := 24) dX12_known_19 (by decide) (fun _ => ?_) (fun _ => ?_)
    · refine A_iconst (v := (-1 : Int32)) dX12_known_22 oI_m1 ?_
      exact A_iret rfl dX12_known_23
    · refine A_iconst (v := (0 : Int32)) dX12_known_24 oI_0 ?_
      refine A_istore_n dX12_known_25 (Nat.le_of_ble_eq_true rfl) rfl ?_
      exact (a_X12_known_b26 (l := l) fu  fu _ _).sub ⟨rfl, rfl, trivial⟩
theorem a_X12_known {l : Launch} (fu : Nat)   (M : xM)  : AM SM l yX12_known cX12_known 2 (some .int) 1 ki [xr 0] M (F_X12_known fu   M) :=
  AM.of (L0 := [some (xr 0), none]) (w_X12_known (l := l) fu  M ) (by decide +kernel) rfl (Nat.le_of_ble_eq_true rfl) ⟨rfl, trivial⟩
def P_X12_isPaper  (x0 : Int32)   (M : xM) : Int32 :=
  (P_X12_isIn x0 (0 : Int32) (29 : Int32) M)
set_option maxRecDepth 100000 in
set_option maxHeartbeats 4000000 in
theorem w_X12_isPaper {l : Launch} (x0 : Int32)     (M : xM)  : AW SM l RX12 cX12_isPaper 1 (some .boolean) 1 ki (some (P_X12_isPaper x0  M, M)) 0 [some (xi x0)] [] M := by
  unfold P_X12_isPaper
  refine A_iload_n dX12_isPaper_0 rfl ?_
  refine A_iconst (v := (0 : Int32)) dX12_isPaper_1 oI_0 ?_
  refine A_bipush (v := (29 : Int32)) dX12_isPaper_2 oB_29 ?_
  refine A_callSp (a_X12_isIn (l := l) _ _ _ _ ) lc_X12_196 rfl (by decide) (Nat.le_of_ble_eq_true rfl) rfl dX12_isPaper_4 ?_
  exact A_zret' rfl (zP_X12_isIn _ _ _ _) dX12_isPaper_7
theorem a_X12_isPaper {l : Launch}  (x0 : Int32) (M : xM)  : AM SM l yX12_isPaper cX12_isPaper 1 (some .boolean) 1 ki [xi x0] M (some (P_X12_isPaper  x0  M, M)) :=
  AM.of (L0 := [some (xi x0)]) (w_X12_isPaper (l := l) x0  M ) (by decide +kernel) rfl (Nat.le_of_ble_eq_true rfl) ⟨rfl, trivial⟩
theorem zP_X12_isPaper (x0 : Int32) (M : xM) : P_X12_isPaper x0 M = 0 ∨ P_X12_isPaper x0 M = 1 := by
  unfold P_X12_isPaper
  repeat' split
  all_goals first | decide | with_reducible exact zP_X12_isIn _ _ _ _
def F_X12_read_b41 (fu : Nat)  (x1 : Int32) (x2 : Int32)  : Nat → Int32 → Int32 → xM → Option (Int32 × xM)
  | 0, _, _, _ => none
  | n + 1, x3, x4, M =>
    (if (M 0 15) ≤ x4 then
    (if x3 < 0 ∨ 120 ≤ x3.toNatClampNeg then none else
    some ((1 : Int32), (xset (xset M 34 x3.toNatClampNeg (M 0 15)) 0 15 (0 : Int32))))
    else
    (if x4 < 0 ∨ 120 ≤ x4.toNatClampNeg then none else
    (if (((8 : Int32) * x3) + x4) < 0 ∨ 960 ≤ (((8 : Int32) * x3) + x4).toNatClampNeg then none else
    F_X12_read_b41 fu x1 x2 n x3 (x4 + (1 : Int32)) (xset M 32 (((8 : Int32) * x3) + x4).toNatClampNeg (vp_nar .byte (M 7 x4.toNatClampNeg))))))
set_option maxRecDepth 100000 in
set_option maxHeartbeats 4000000 in
theorem a_X12_read_b41 {l : Launch} (fu : Nat) (x1 : Int32) (x2 : Int32)    : ∀ (n : Nat) (x3 : Int32) (x4 : Int32) (M : xM), AW SM l RX12 cX12_read 5 (some .boolean) 2 ki (F_X12_read_b41 fu x1 x2 n x3 x4 M) 41 [some (xr 0), none, none, some (xi x3), some (xi x4)] [] M := by
  intro n
  induction n with
  | zero =>
    intro x3 x4 M
    exact AW.none
  | succ n ih =>
    intro x3 x4 M
    rw [F_X12_read_b41]
    refine A_iload dX12_read_41 rfl ?_
    refine A_aload_n dX12_read_43 rfl ?_
    refine A_geti lf_X12_229 rfl rfl dX12_read_44 ?_
    refine A_icmp_ge (tgt := 75) dX12_read_47 (by decide) (fun _ => ?_) (fun _ => ?_)
    · refine A_aload_n dX12_read_75 rfl ?_
      refine A_getr lf_X12_129 rfl rfl dX12_read_76 ?_
      refine A_iload_n dX12_read_79 rfl ?_
      refine A_aload_n dX12_read_80 rfl ?_
      refine A_geti lf_X12_229 rfl rfl dX12_read_81 ?_
      refine A_iast rfl dX12_read_84 (fun _ => ?_)
      refine A_aload_n dX12_read_85 rfl ?_
      refine A_iconst (v := (0 : Int32)) dX12_read_86 oI_0 ?_
      refine A_puti lf_X12_229 rfl rfl dX12_read_87 ?_
      refine A_iconst (v := (1 : Int32)) dX12_read_90 oI_1 ?_
      exact A_zret' rfl (Or.inr rfl) dX12_read_91
    · refine A_aload_n dX12_read_50 rfl ?_
      refine A_getr lf_X12_123 rfl rfl dX12_read_51 ?_
      refine A_bipush (v := (8 : Int32)) dX12_read_54 oB_8 ?_
      refine A_iload_n dX12_read_56 rfl ?_
      refine A_imul dX12_read_57 ?_
      refine A_iload dX12_read_58 rfl ?_
      refine A_iadd dX12_read_60 ?_
      refine A_aload_n dX12_read_61 rfl ?_
      refine A_getr lf_X12_29 rfl rfl dX12_read_62 ?_
      refine A_iload dX12_read_65 rfl ?_
      refine A_bald rfl dX12_read_67 (fun _ => ?_)
      refine A_bast rfl dX12_read_68 (fun _ => ?_)
      refine A_iinc dX12_read_69 rfl oI_1 (Nat.le_of_ble_eq_true rfl) rfl ?_
      refine A_goto (tgt := 41) dX12_read_72 (by decide) ?_
      exact (ih _ _ _).sub ⟨rfl, rfl, rfl, trivial⟩
def F_X12_read (fu : Nat)  (x1 : Int32) (x2 : Int32)   (M : xM) : Option (Int32 × xM) :=
  (if (P_X12_isIn x1 (0 : Int32) (3 : Int32) (xset M 0 0 (0 : Int32))) = 0 then
  some ((0 : Int32), (xset M 0 0 (0 : Int32)))
  else
  (if (P_X12_isPaper x2 (xset M 0 0 (0 : Int32))) = 0 then
  some ((0 : Int32), (xset M 0 0 (0 : Int32)))
  else
  (F_X12_isText fu (1 : Int32) (xset M 0 0 (0 : Int32))).bind fun q1 =>
  (if q1.1 = 0 then
  some ((0 : Int32), q1.2)
  else
  F_X12_read_b41 fu x1 x2 fu (((30 : Int32) * x1) + x2) (0 : Int32) q1.2)))
set_option maxRecDepth 100000 in
set_option maxHeartbeats 4000000 in
theorem w_X12_read {l : Launch} (fu : Nat) (x1 : Int32) (x2 : Int32)     (M : xM)  : AW SM l RX12 cX12_read 5 (some .boolean) 2 ki (F_X12_read fu x1 x2  M) 0 [some (xr 0), some (xi x1), some (xi x2), none, none] [] M := by
  unfold F_X12_read
  refine A_aload_n dX12_read_0 rfl ?_
  refine A_iconst (v := (0 : Int32)) dX12_read_1 oI_0 ?_
  refine A_puti lf_X12_180 rfl rfl dX12_read_2 ?_
  refine A_iload_n dX12_read_5 rfl ?_
  refine A_iconst (v := (0 : Int32)) dX12_read_6 oI_0 ?_
  refine A_iconst (v := (3 : Int32)) dX12_read_7 oI_3 ?_
  refine A_callSp (a_X12_isIn (l := l) _ _ _ _ ) lc_X12_196 rfl (by decide) (Nat.le_of_ble_eq_true rfl) rfl dX12_read_8 ?_
  refine A_if_eq (tgt := 29) dX12_read_11 (by decide) (fun _ => ?_) (fun _ => ?_)
  · refine A_iconst (v := (0 : Int32)) dX12_read_29 oI_0 ?_
    exact A_zret' rfl (Or.inl rfl) dX12_read_30
  · refine A_iload_n dX12_read_14 rfl ?_
    refine A_callSp (a_X12_isPaper (l := l) _ _ ) lc_X12_462 rfl (by decide) (Nat.le_of_ble_eq_true rfl) rfl dX12_read_15 ?_
    refine A_if_eq (tgt := 29) dX12_read_18 (by decide) (fun _ => ?_) (fun _ => ?_)
    · refine A_iconst (v := (0 : Int32)) dX12_read_29 oI_0 ?_
      exact A_zret' rfl (Or.inl rfl) dX12_read_30
    · refine A_aload_n dX12_read_21 rfl ?_
      refine A_iconst (v := (1 : Int32)) dX12_read_22 oI_1 ?_
      refine A_callVi (a_X12_isText (l := l) fu _ _ ) lc_X12_455 rfl rfl (by decide) (Nat.le_of_ble_eq_true rfl) rfl dX12_read_23 (fun q1 Mq1 hq1 => ?_)
      refine A_if_ne (tgt := 31) dX12_read_26 (by decide) (fun _ => ?_) (fun _ => ?_)
      · refine A_iconst (v := (0 : Int32)) dX12_read_29 oI_0 ?_
        exact A_zret' rfl (Or.inl rfl) dX12_read_30
      · refine A_bipush (v := (30 : Int32)) dX12_read_31 oB_30 ?_
        refine A_iload_n dX12_read_33 rfl ?_
        refine A_imul dX12_read_34 ?_
        refine A_iload_n dX12_read_35 rfl ?_
        refine A_iadd dX12_read_36 ?_
        refine A_istore_n dX12_read_37 (Nat.le_of_ble_eq_true rfl) rfl ?_
        refine A_iconst (v := (0 : Int32)) dX12_read_38 oI_0 ?_
        refine A_istore dX12_read_39 (Nat.le_of_ble_eq_true rfl) rfl ?_
        exact (a_X12_read_b41 (l := l) fu x1 x2  fu _ _ _).sub ⟨rfl, rfl, rfl, trivial⟩
theorem a_X12_read {l : Launch} (fu : Nat)  (x1 : Int32) (x2 : Int32) (M : xM)  : AM SM l yX12_read cX12_read 5 (some .boolean) 2 ki [xr 0, xi x1, xi x2] M (F_X12_read fu x1 x2  M) :=
  AM.of (L0 := [some (xr 0), some (xi x1), some (xi x2), none, none]) (w_X12_read (l := l) fu x1 x2  M ) (by decide +kernel) rfl (Nat.le_of_ble_eq_true rfl) ⟨rfl, rfl, rfl, trivial⟩
