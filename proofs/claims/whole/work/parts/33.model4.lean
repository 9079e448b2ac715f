theorem lk_X12_391 : Jvm.Cond.constant RX12 391 (-100000) ∈ lw_g := lw_gm 1946 (by decide +kernel) rfl
theorem lf_X12_102 : xfl RX12 102 11 46 (tyX12 46) true := ⟨_, _, _, _, xc_X12, by decide, rfl, rfl, rfl, lw_gm 1459 (by decide +kernel) rfl⟩
theorem lf_X12_66 : xfl RX12 66 11 30 (tyX12 30) true := ⟨_, _, _, _, xc_X12, by decide, rfl, rfl, rfl, lw_gm 1443 (by decide +kernel) rfl⟩
theorem lf_X12_69 : xfl RX12 69 11 31 (tyX12 31) true := ⟨_, _, _, _, xc_X12, by decide, rfl, rfl, rfl, lw_gm 1444 (by decide +kernel) rfl⟩
theorem lf_X12_99 : xfl RX12 99 11 45 (tyX12 45) true := ⟨_, _, _, _, xc_X12, by decide, rfl, rfl, rfl, lw_gm 1458 (by decide +kernel) rfl⟩
theorem lc_X12_378 : xlV RX12 378 yX12_counts cX12_counts 3 (some .boolean) 2 11 := ⟨⟨lw_gm 1918 (by decide +kernel) rfl, lw_gm 117 (by decide +kernel) rfl, lw_gm 1921 (by decide +kernel) rfl, ⟨by decide, by decide, by decide +kernel⟩, by decide⟩, lw_gm 1920 (by decide +kernel) rfl, lw_gm 70 (by decide +kernel) rfl, _, _, rfl⟩
theorem lc_X12_381 : xlV RX12 381 yX12_greatest cX12_greatest 4 (some .int) 2 11 := ⟨⟨lw_gm 1922 (by decide +kernel) rfl, lw_gm 117 (by decide +kernel) rfl, lw_gm 1925 (by decide +kernel) rfl, ⟨by decide, by decide, by decide +kernel⟩, by decide⟩, lw_gm 1924 (by decide +kernel) rfl, lw_gm 71 (by decide +kernel) rfl, _, _, rfl⟩
theorem lc_X12_384 : xlV RX12 384 yX12_isOfOffice cX12_isOfOffice 2 (some .boolean) 1 11 := ⟨⟨lw_gm 1910 (by decide +kernel) rfl, lw_gm 117 (by decide +kernel) rfl, lw_gm 1913 (by decide +kernel) rfl, ⟨by decide, by decide, by decide +kernel⟩, by decide⟩, lw_gm 1912 (by decide +kernel) rfl, lw_gm 68 (by decide +kernel) rfl, _, _, rfl⟩
theorem lc_X12_387 : xlV RX12 387 yX12_spanOf cX12_spanOf 9 (some .int) 3 11 := ⟨⟨lw_gm 1914 (by decide +kernel) rfl, lw_gm 117 (by decide +kernel) rfl, lw_gm 1917 (by decide +kernel) rfl, ⟨by decide, by decide, by decide +kernel⟩, by decide⟩, lw_gm 1916 (by decide +kernel) rfl, lw_gm 69 (by decide +kernel) rfl, _, _, rfl⟩
theorem lc_X12_392 : xlV RX12 392 yX12_aheadNow cX12_aheadNow 4 (some .int) 2 11 := ⟨⟨lw_gm 1947 (by decide +kernel) rfl, lw_gm 117 (by decide +kernel) rfl, lw_gm 1950 (by decide +kernel) rfl, ⟨by decide, by decide, by decide +kernel⟩, by decide⟩, lw_gm 1949 (by decide +kernel) rfl, lw_gm 74 (by decide +kernel) rfl, _, _, rfl⟩
theorem lc_X12_395 : xlV RX12 395 yX12_aheadIn cX12_aheadIn 9 (some .int) 4 11 := ⟨⟨lw_gm 1942 (by decide +kernel) rfl, lw_gm 117 (by decide +kernel) rfl, lw_gm 1945 (by decide +kernel) rfl, ⟨by decide, by decide, by decide +kernel⟩, by decide⟩, lw_gm 1944 (by decide +kernel) rfl, lw_gm 73 (by decide +kernel) rfl, _, _, rfl⟩
theorem lc_X12_399 : xlV RX12 399 yX12_aheadOf cX12_aheadOf 6 (some .int) 2 11 := ⟨⟨lw_gm 1938 (by decide +kernel) rfl, lw_gm 117 (by decide +kernel) rfl, lw_gm 1941 (by decide +kernel) rfl, ⟨by decide, by decide, by decide +kernel⟩, by decide⟩, lw_gm 1940 (by decide +kernel) rfl, lw_gm 72 (by decide +kernel) rfl, _, _, rfl⟩
theorem lc_X12_402 : xlV RX12 402 yX12_isFound cX12_isFound 3 (some .boolean) 1 11 := ⟨⟨lw_gm 1959 (by decide +kernel) rfl, lw_gm 117 (by decide +kernel) rfl, lw_gm 1962 (by decide +kernel) rfl, ⟨by decide, by decide, by decide +kernel⟩, by decide⟩, lw_gm 1961 (by decide +kernel) rfl, lw_gm 76 (by decide +kernel) rfl, _, _, rfl⟩
theorem lc_X12_405 : xlV RX12 405 yX12_areFound cX12_areFound 2 (some .boolean) 0 11 := ⟨⟨lw_gm 1955 (by decide +kernel) rfl, lw_gm 117 (by decide +kernel) rfl, lw_gm 1958 (by decide +kernel) rfl, ⟨by decide, by decide, by decide +kernel⟩, by decide⟩, lw_gm 1957 (by decide +kernel) rfl, lw_gm 75 (by decide +kernel) rfl, _, _, rfl⟩
theorem lc_X12_408 : xlV RX12 408 yX12_isWinner cX12_isWinner 3 (some .boolean) 1 11 := ⟨⟨lw_gm 1963 (by decide +kernel) rfl, lw_gm 117 (by decide +kernel) rfl, lw_gm 1966 (by decide +kernel) rfl, ⟨by decide, by decide, by decide +kernel⟩, by decide⟩, lw_gm 1965 (by decide +kernel) rfl, lw_gm 77 (by decide +kernel) rfl, _, _, rfl⟩
theorem lc_X12_411 : xlV RX12 411 yX12_layGains cX12_layGains 5 none 1 11 := ⟨⟨lw_gm 1975 (by decide +kernel) rfl, lw_gm 117 (by decide +kernel) rfl, lw_gm 1978 (by decide +kernel) rfl, ⟨by decide, by decide, by decide +kernel⟩, by decide⟩, lw_gm 1977 (by decide +kernel) rfl, lw_gm 78 (by decide +kernel) rfl, _, _, rfl⟩
theorem lc_X12_414 : xlV RX12 414 yX12_winsWith cX12_winsWith 6 (some .boolean) 2 11 := ⟨⟨lw_gm 1979 (by decide +kernel) rfl, lw_gm 117 (by decide +kernel) rfl, lw_gm 1982 (by decide +kernel) rfl, ⟨by decide, by decide, by decide +kernel⟩, by decide⟩, lw_gm 1981 (by decide +kernel) rfl, lw_gm 79 (by decide +kernel) rfl, _, _, rfl⟩
theorem lc_X12_417 : xlV RX12 417 yX12_costOf cX12_costOf 4 (some .int) 1 11 := ⟨⟨lw_gm 1983 (by decide +kernel) rfl, lw_gm 117 (by decide +kernel) rfl, lw_gm 1986 (by decide +kernel) rfl, ⟨by decide, by decide, by decide +kernel⟩, by decide⟩, lw_gm 1985 (by decide +kernel) rfl, lw_gm 80 (by decide +kernel) rfl, _, _, rfl⟩
def F_X12_counts_b20 (fu : Nat)  (x1 : Int32) (x2 : Int32)   (M : xM) : Option (Int32 × xM) :=
  (F_X12_fits fu x1 x2 M).bind fun q1 =>
  (if q1.1 = 0 then
  some ((0 : Int32), q1.2)
  else
  some ((1 : Int32), q1.2))
set_option maxRecDepth 100000 in
set_option maxHeartbeats 4000000 in
theorem a_X12_counts_b20 {l : Launch} (fu : Nat) (x1 : Int32) (x2 : Int32)     (M : xM)  : AW SM l RX12 cX12_counts 3 (some .boolean) 77 ki (F_X12_counts_b20 fu x1 x2  M) 20 [some (xr 0), some (xi x1), some (xi x2)] [] M := by
  unfold F_X12_counts_b20
  refine A_aload_n dX12_counts_20 rfl ?_
  refine A_iload_n dX12_counts_21 rfl ?_
  refine A_iload_n dX12_counts_22 rfl ?_
  refine A_callVi (a_X12_fits (l := l) fu _ _ _ ) lc_X12_372 rfl rfl (by decide) (Nat.le_of_ble_eq_true rfl) rfl dX12_counts_23 (fun q1 Mq1 hq1 => ?_)
  refine A_if_eq (tgt := 33) dX12_counts_26 (by decide) (fun _ => ?_) (fun _ => ?_)
  · refine A_iconst (v := (0 : Int32)) dX12_counts_33 oI_0 ?_
    exact A_zret' rfl (Or.inl rfl) dX12_counts_34
  · refine A_iconst (v := (1 : Int32)) dX12_counts_29 oI_1 ?_
    refine A_goto (tgt := 34) dX12_counts_30 (by decide) ?_
    exact A_zret' rfl (Or.inr rfl) dX12_counts_34
def F_X12_counts (fu : Nat)  (x1 : Int32) (x2 : Int32)   (M : xM) : Option (Int32 × xM) :=
  (if x1 < 0 ∨ 6 ≤ x1.toNatClampNeg then none else
  (if (M 13 x1.toNatClampNeg) = (-1 : Int32) then
  F_X12_counts_b20 fu x1 x2  M
  else
  (if x1 < 0 ∨ 6 ≤ x1.toNatClampNeg then none else
  (if (M 13 x1.toNatClampNeg) = x2 then
  F_X12_counts_b20 fu x1 x2  M
  else
  some ((0 : Int32), M)))))
set_option maxRecDepth 100000 in
set_option maxHeartbeats 4000000 in
theorem w_X12_counts {l : Launch} (fu : Nat) (x1 : Int32) (x2 : Int32)     (M : xM)  : AW SM l RX12 cX12_counts 3 (some .boolean) 77 ki (F_X12_counts fu x1 x2  M) 0 [some (xr 0), some (xi x1), some (xi x2)] [] M := by
  unfold F_X12_counts
  refine A_aload_n dX12_counts_0 rfl ?_
  refine A_getr lf_X12_66 rfl rfl dX12_counts_1 ?_
  refine A_iload_n dX12_counts_4 rfl ?_
  refine A_iald rfl dX12_counts_5 (fun _ => ?_)
  refine A_iconst (v := (-1 : Int32)) dX12_counts_6 oI_m1 ?_
  refine A_icmp_eq (tgt := 20) dX12_counts_7 (by decide) (fun _ => ?_) (fun _ => ?_)
  · exact (a_X12_counts_b20 (l := l) fu x1 x2   _ ).sub ⟨rfl, rfl, rfl, trivial⟩
  · refine A_aload_n dX12_counts_10 rfl ?_
    refine A_getr lf_X12_66 rfl rfl dX12_counts_11 ?_
    refine A_iload_n dX12_counts_14 rfl ?_
    refine A_iald rfl dX12_counts_15 (fun _ => ?_)
    refine A_iload_n dX12_counts_16 rfl ?_
    refine A_icmp_ne (tgt := 33) dX12_counts_17 (by decide) (fun _ => ?_) (fun _ => ?_)
    · exact (a_X12_counts_b20 (l := l) fu x1 x2   _ ).sub ⟨rfl, rfl, rfl, trivial⟩
    · refine A_iconst (v := (0 : Int32)) dX12_counts_33 oI_0 ?_
      exact A_zret' rfl (Or.inl rfl) dX12_counts_34
theorem a_X12_counts {l : Launch} (fu : Nat)  (x1 : Int32) (x2 : Int32) (M : xM)  : AM SM l yX12_counts cX12_counts 3 (some .boolean) 77 ki [xr 0, xi x1, xi x2] M (F_X12_counts fu x1 x2  M) :=
  AM.of (L0 := [some (xr 0), some (xi x1), some (xi x2)]) (w_X12_counts (l := l) fu x1 x2  M ) (by decide +kernel) rfl (Nat.le_of_ble_eq_true rfl) ⟨rfl, rfl, rfl, trivial⟩
def F_X12_spanOf_b107 (fu : Nat)  (x1 : Int32) (x2 : Int32) (x3 : Int32) (k9 : Int32 → Int32 → Int32 → xM → Option (Int32 × xM)) (x4 : Int32) (x5 : Int32) (x6 : Int32) (M : xM) : Option (Int32 × xM) :=
  k9 x4 x5 (x6 + (1 : Int32)) M
set_option maxRecDepth 100000 in
set_option maxHeartbeats 4000000 in
theorem a_X12_spanOf_b107 {l : Launch} (fu : Nat) (x1 : Int32) (x2 : Int32) (x3 : Int32)  {k9 : Int32 → Int32 → Int32 → xM → Option (Int32 × xM)} (hk9 : ∀ (b0 : Int32) (b1 : Int32) (b2 : Int32) (M : xM), AW SM l RX12 cX12_spanOf 9 (some .int) 78 ki (k9 b0 b1 b2 M) 9 [some (xr 0), some (xi x1), some (xi x2), some (xi x3), some (xi b0), some (xi b1), some (xi b2), none, none] [] M) (x4 : Int32) (x5 : Int32) (x6 : Int32) (M : xM)  : AW SM l RX12 cX12_spanOf 9 (some .int) 78 ki (F_X12_spanOf_b107 fu x1 x2 x3 k9 x4 x5 x6 M) 107 [some (xr 0), some (xi x1), some (xi x2), some (xi x3), some (xi x4), some (xi x5), some (xi x6), none, none] [] M := by
  unfold F_X12_spanOf_b107
  refine A_iinc dX12_spanOf_107 rfl oI_1 (Nat.le_of_ble_eq_true rfl) rfl ?_
  refine A_goto (tgt := 9) dX12_spanOf_110 (by decide) ?_
  exact (hk9 _ _ _ _).sub ⟨rfl, rfl, rfl, rfl, rfl, rfl, rfl, trivial⟩
def F_X12_spanOf_b96 (fu : Nat)  (x1 : Int32) (x2 : Int32) (x3 : Int32) (k9 : Int32 → Int32 → Int32 → xM → Option (Int32 × xM)) (x5 : Int32) (x6 : Int32) (x8 : Int32) (s0 : Int32) (M : xM) : Option (Int32 × xM) :=
  F_X12_spanOf_b107 fu x1 x2 x3 k9 s0 (jmax x5 x8) x6 M
set_option maxRecDepth 100000 in
set_option maxHeartbeats 4000000 in
theorem a_X12_spanOf_b96 {l : Launch} (fu : Nat) (x1 : Int32) (x2 : Int32) (x3 : Int32)  {k9 : Int32 → Int32 → Int32 → xM → Option (Int32 × xM)} (hk9 : ∀ (b0 : Int32) (b1 : Int32) (b2 : Int32) (M : xM), AW SM l RX12 cX12_spanOf 9 (some .int) 78 ki (k9 b0 b1 b2 M) 9 [some (xr 0), some (xi x1), some (xi x2), some (xi x3), some (xi b0), some (xi b1), some (xi b2), none, none] [] M) (x5 : Int32) (x6 : Int32) (x8 : Int32) (s0 : Int32) (M : xM)  : AW SM l RX12 cX12_spanOf 9 (some .int) 78 ki (F_X12_spanOf_b96 fu x1 x2 x3 k9 x5 x6 x8 s0 M) 96 [some (xr 0), some (xi x1), some (xi x2), some (xi x3), none, some (xi x5), some (xi x6), none, some (xi x8)] [xi s0] M := by
  unfold F_X12_spanOf_b96
  refine A_istore dX12_spanOf_96 (Nat.le_of_ble_eq_true rfl) rfl ?_
  refine A_iload dX12_spanOf_98 rfl ?_
  refine A_iload dX12_spanOf_100 rfl ?_
  refine A_jmax lc_X12_174 (by decide) (Nat.le_of_ble_eq_true rfl) dX12_spanOf_102 ?_
  refine A_istore dX12_spanOf_105 (Nat.le_of_ble_eq_true rfl) rfl ?_
  exact (a_X12_spanOf_b107 (l := l) fu x1 x2 x3 hk9 _ _ _ _ ).sub ⟨rfl, rfl, rfl, rfl, rfl, rfl, rfl, trivial⟩
def F_X12_spanOf_b9 (fu : Nat)  (x1 : Int32) (x2 : Int32) (x3 : Int32)  : Nat → Int32 → Int32 → Int32 → xM → Option (Int32 × xM)
  | 0, _, _, _, _ => none
  | n + 1, x4, x5, x6, M =>
    (if x1 < 0 ∨ 6 ≤ x1.toNatClampNeg then none else
    (if ((1 : Int32) <<< ((M 15 x1.toNatClampNeg) &&& 31)) ≤ x6 then
    (if x3 = 0 then
    some (x4, M)
    else
    some (x5, M))
    else
    (F_X12_counts fu x1 x6 M).bind fun q1 =>
    (if q1.1 = 0 then
    F_X12_spanOf_b107 fu x1 x2 x3 (F_X12_spanOf_b9 fu x1 x2 x3 n) x4 x5 x6 q1.2
    else
    (if x2 < 0 ∨ 16 ≤ x2.toNatClampNeg then none else
    (F_X12_boundOf (q1.2 3 x2.toNatClampNeg) q1.2).bind fun q2 =>
    (F_X12_sumOfLeast fu (q1.2 3 x2.toNatClampNeg) q2.2).bind fun q3 =>
    (if x2 < 0 ∨ 16 ≤ x2.toNatClampNeg then none else
    (F_X12_greatest fu x2 ((q2.1 - q3.1) + (q3.2 22 x2.toNatClampNeg)) q3.2).bind fun q4 =>
    (if x4 = (-1 : Int32) then
    (if x2 < 0 ∨ 16 ≤ x2.toNatClampNeg then none else
    F_X12_spanOf_b96 fu x1 x2 x3 (F_X12_spanOf_b9 fu x1 x2 x3 n) x5 x6 q4.1 (q4.2 22 x2.toNatClampNeg) q4.2)
    else
    (if x2 < 0 ∨ 16 ≤ x2.toNatClampNeg then none else
    F_X12_spanOf_b96 fu x1 x2 x3 (F_X12_spanOf_b9 fu x1 x2 x3 n) x5 x6 q4.1 (jmin x4 (q4.2 22 x2.toNatClampNeg)) q4.2)))))))
set_option maxRecDepth 100000 in
set_option maxHeartbeats 4000000 in
theorem a_X12_spanOf_b9 {l : Launch} (fu : Nat) (x1 : Int32) (x2 : Int32) (x3 : Int32)    : ∀ (n : Nat) (x4 : Int32) (x5 : Int32) (x6 : Int32) (M : xM), AW SM l RX12 cX12_spanOf 9 (some .int) 78 ki (F_X12_spanOf_b9 fu x1 x2 x3 n x4 x5 x6 M) 9 [some (xr 0), some (xi x1), some (xi x2), some (xi x3), some (xi x4), some (xi x5), some (xi x6), none, none] [] M := by
  intro n
  induction n with
  | zero =>
    intro x4 x5 x6 M
    exact AW.none
  | succ n ih =>
    intro x4 x5 x6 M
    rw [F_X12_spanOf_b9]
    refine A_iload dX12_spanOf_9 rfl ?_
    refine A_iconst (v := (1 : Int32)) dX12_spanOf_11 oI_1 ?_
    refine A_aload_n dX12_spanOf_12 rfl ?_
    refine A_getr lf_X12_72 rfl rfl dX12_spanOf_13 ?_
    refine A_iload_n dX12_spanOf_16 rfl ?_
    refine A_iald rfl dX12_spanOf_17 (fun _ => ?_)
    refine A_ishl dX12_spanOf_18 ?_
    refine A_icmp_ge (tgt := 113) dX12_spanOf_19 (by decide) (fun _ => ?_) (fun _ => ?_)
    · refine A_iload_n dX12_spanOf_113 rfl ?_
      refine A_if_ne (tgt := 122) dX12_spanOf_114 (by decide) (fun _ => ?_) (fun _ => ?_)
      · refine A_iload dX12_spanOf_117 rfl ?_
        refine A_goto (tgt := 124) dX12_spanOf_119 (by decide) ?_
        exact A_iret rfl dX12_spanOf_124
      · refine A_iload dX12_spanOf_122 rfl ?_
        exact A_iret rfl dX12_spanOf_124
    · refine A_aload_n dX12_spanOf_22 rfl ?_
      refine A_iload_n dX12_spanOf_23 rfl ?_
      refine A_iload dX12_spanOf_24 rfl ?_
      refine A_callVi (a_X12_counts (l := l) fu _ _ _ ) lc_X12_378 rfl rfl (by decide) (Nat.le_of_ble_eq_true rfl) rfl dX12_spanOf_26 (fun q1 Mq1 hq1 => ?_)
      refine A_if_ne (tgt := 35) dX12_spanOf_29 (by decide) (fun _ => ?_) (fun _ => ?_)
      · refine A_goto (tgt := 107) dX12_spanOf_32 (by decide) ?_
        exact (a_X12_spanOf_b107 (l := l) fu x1 x2 x3 ih _ _ _ _ ).sub ⟨rfl, rfl, rfl, rfl, rfl, rfl, rfl, trivial⟩
      · refine A_aload_n dX12_spanOf_35 rfl ?_
        refine A_getr lf_X12_16 rfl rfl dX12_spanOf_36 ?_
        refine A_iload_n dX12_spanOf_39 rfl ?_
        refine A_iald rfl dX12_spanOf_40 (fun _ => ?_)
        refine A_istore dX12_spanOf_41 (Nat.le_of_ble_eq_true rfl) rfl ?_
        refine A_aload_n dX12_spanOf_43 rfl ?_
        refine A_iload_n dX12_spanOf_44 rfl ?_
        refine A_aload_n dX12_spanOf_45 rfl ?_
        refine A_iload dX12_spanOf_46 rfl ?_
        refine A_callVi (a_X12_boundOf (l := l) _ _ ) lc_X12_369 rfl rfl (by decide) (Nat.le_of_ble_eq_true rfl) rfl dX12_spanOf_48 (fun q2 Mq2 hq2 => ?_)
        refine A_aload_n dX12_spanOf_51 rfl ?_
        refine A_iload dX12_spanOf_52 rfl ?_
        refine A_callVi (a_X12_sumOfLeast (l := l) fu _ _ ) lc_X12_366 rfl rfl (by decide) (Nat.le_of_ble_eq_true rfl) rfl dX12_spanOf_54 (fun q3 Mq3 hq3 => ?_)
        refine A_isub dX12_spanOf_57 ?_
        refine A_aload_n dX12_spanOf_58 rfl ?_
        refine A_getr lf_X12_93 rfl rfl dX12_spanOf_59 ?_
        refine A_iload_n dX12_spanOf_62 rfl ?_
        refine A_iald rfl dX12_spanOf_63 (fun _ => ?_)
        refine A_iadd dX12_spanOf_64 ?_
        refine A_callVi (a_X12_greatest (l := l) fu _ _ _ ) lc_X12_381 rfl rfl (by decide) (Nat.le_of_ble_eq_true rfl) rfl dX12_spanOf_65 (fun q4 Mq4 hq4 => ?_)
        refine A_istore dX12_spanOf_68 (Nat.le_of_ble_eq_true rfl) rfl ?_
        refine A_iload dX12_spanOf_70 rfl ?_
        refine A_iconst (v := (-1 : Int32)) dX12_spanOf_72 oI_m1 ?_
        refine A_icmp_ne (tgt := 85) dX12_spanOf_73 (by decide) (fun _ => ?_) (fun _ => ?_)
        · refine A_aload_n dX12_spanOf_76 rfl ?_
          refine A_getr lf_X12_93 rfl rfl dX12_spanOf_77 ?_
          refine A_iload_n dX12_spanOf_80 rfl ?_
          refine A_iald rfl dX12_spanOf_81 (fun _ => ?_)
          refine A_goto (tgt := 96) dX12_spanOf_82 (by decide) ?_
          exact (a_X12_spanOf_b96 (l := l) fu x1 x2 x3 ih _ _ _ _ _ ).sub ⟨rfl, rfl, rfl, rfl, rfl, rfl, rfl, trivial⟩
        · refine A_iload dX12_spanOf_85 rfl ?_
          refine A_aload_n dX12_spanOf_87 rfl ?_
          refine A_getr lf_X12_93 rfl rfl dX12_spanOf_88 ?_
          refine A_iload_n dX12_spanOf_91 rfl ?_
          refine A_iald rfl dX12_spanOf_92 (fun _ => ?_)
          refine A_jmin lc_X12_168 (by decide) (Nat.le_of_ble_eq_true rfl) dX12_spanOf_93 ?_
          exact (a_X12_spanOf_b96 (l := l) fu x1 x2 x3 ih _ _ _ _ _ ).sub ⟨rfl, rfl, rfl, rfl, rfl, rfl, rfl, trivial⟩
def F_X12_spanOf (fu : Nat)  (x1 : Int32) (x2 : Int32) (x3 : Int32)   (M : xM) : Option (Int32 × xM) :=
  F_X12_spanOf_b9 fu x1 x2 x3 fu (-1 : Int32) (-1 : Int32) (0 : Int32) M
set_option maxRecDepth 100000 in
set_option maxHeartbeats 4000000 in
theorem w_X12_spanOf {l : Launch} (fu : Nat) (x1 : Int32) (x2 : Int32) (x3 : Int32)     (M : xM)  : AW SM l RX12 cX12_spanOf 9 (some .int) 78 ki (F_X12_spanOf fu x1 x2 x3  M) 0 [some (xr 0), some (xi x1), some (xi x2), some (xi x3), none, none, none, none, none] [] M := by
  unfold F_X12_spanOf
  refine A_iconst (v := (-1 : Int32)) dX12_spanOf_0 oI_m1 ?_
  refine A_istore dX12_spanOf_1 (Nat.le_of_ble_eq_true rfl) rfl ?_
  refine A_iconst (v := (-1 : Int32)) dX12_spanOf_3 oI_m1 ?_
  refine A_istore dX12_spanOf_4 (Nat.le_of_ble_eq_true rfl) rfl ?_
  refine A_iconst (v := (0 : Int32)) dX12_spanOf_6 oI_0 ?_
  refine A_istore dX12_spanOf_7 (Nat.le_of_ble_eq_true rfl) rfl ?_
  exact (a_X12_spanOf_b9 (l := l) fu x1 x2 x3  fu _ _ _ _).sub ⟨rfl, rfl, rfl, rfl, rfl, rfl, rfl, trivial⟩
theorem a_X12_spanOf {l : Launch} (fu : Nat)  (x1 : Int32) (x2 : Int32) (x3 : Int32) (M : xM)  : AM SM l yX12_spanOf cX12_spanOf 9 (some .int) 78 ki [xr 0, xi x1, xi x2, xi x3] M (F_X12_spanOf fu x1 x2 x3  M) :=
  AM.of (L0 := [some (xr 0), some (xi x1), some (xi x2), some (xi x3), none, none, none, none, none]) (w_X12_spanOf (l := l) fu x1 x2 x3  M ) (by decide +kernel) rfl (Nat.le_of_ble_eq_true rfl) ⟨rfl, rfl, rfl, rfl, trivial⟩
def F_X12_isOfOffice  (x1 : Int32)   (M : xM) : Option (Int32 × xM) :=
  (if (P_X12_isLever x1 M) = 0 then
  some ((0 : Int32), M)
  else
  (if x1 < 0 ∨ 16 ≤ x1.toNatClampNeg then none else
  (if (M 3 x1.toNatClampNeg) = (-1 : Int32) then
  some ((0 : Int32), M)
  else
  some ((1 : Int32), M))))
set_option maxRecDepth 100000 in
set_option maxHeartbeats 4000000 in
theorem w_X12_isOfOffice {l : Launch} (x1 : Int32)     (M : xM)  : AW SM l RX12 cX12_isOfOffice 2 (some .boolean) 1 ki (F_X12_isOfOffice x1  M) 0 [some (xr 0), some (xi x1)] [] M := by
  unfold F_X12_isOfOffice
  refine A_aload_n dX12_isOfOffice_0 rfl ?_
  refine A_iload_n dX12_isOfOffice_1 rfl ?_
  refine A_callVp (a_X12_isLever (l := l) _ _ ) lc_X12_343 rfl rfl (by decide) (Nat.le_of_ble_eq_true rfl) rfl dX12_isOfOffice_2 ?_
  refine A_if_eq (tgt := 22) dX12_isOfOffice_5 (by decide) (fun _ => ?_) (fun _ => ?_)
  · refine A_iconst (v := (0 : Int32)) dX12_isOfOffice_22 oI_0 ?_
    exact A_zret' rfl (Or.inl rfl) dX12_isOfOffice_23
  · refine A_aload_n dX12_isOfOffice_8 rfl ?_
    refine A_getr lf_X12_16 rfl rfl dX12_isOfOffice_9 ?_
    refine A_iload_n dX12_isOfOffice_12 rfl ?_
    refine A_iald rfl dX12_isOfOffice_13 (fun _ => ?_)
    refine A_iconst (v := (-1 : Int32)) dX12_isOfOffice_14 oI_m1 ?_
    refine A_icmp_eq (tgt := 22) dX12_isOfOffice_15 (by decide) (fun _ => ?_) (fun _ => ?_)
    · refine A_iconst (v := (0 : Int32)) dX12_isOfOffice_22 oI_0 ?_
      exact A_zret' rfl (Or.inl rfl) dX12_isOfOffice_23
    · refine A_iconst (v := (1 : Int32)) dX12_isOfOffice_18 oI_1 ?_
      refine A_goto (tgt := 23) dX12_isOfOffice_19 (by decide) ?_
      exact A_zret' rfl (Or.inr rfl) dX12_isOfOffice_23
theorem a_X12_isOfOffice {l : Launch}  (x1 : Int32) (M : xM)  : AM SM l yX12_isOfOffice cX12_isOfOffice 2 (some .boolean) 1 ki [xr 0, xi x1] M (F_X12_isOfOffice  x1  M) :=
  AM.of (L0 := [some (xr 0), some (xi x1)]) (w_X12_isOfOffice (l := l) x1  M ) (by decide +kernel) rfl (Nat.le_of_ble_eq_true rfl) ⟨rfl, rfl, trivial⟩
def F_X12_span (fu : Nat)  (x1 : Int32) (x2 : Int32) (x3 : Int32)   (M : xM) : Option (Int32 × xM) :=
  (if (P_X12_isMachine x1 (xset M 0 0 (0 : Int32))) = 0 then
  some ((-1 : Int32), (xset M 0 0 (0 : Int32)))
  else
  (F_X12_isOfOffice x2 (xset M 0 0 (0 : Int32))).bind fun q1 =>
  (if q1.1 = 0 then
  some ((-1 : Int32), q1.2)
  else
  (if (P_X12_isIn x3 (0 : Int32) (1 : Int32) q1.2) = 0 then
  some ((-1 : Int32), q1.2)
  else
  (F_X12_spanOf fu x1 x2 x3 q1.2).bind fun q2 =>
  some (q2.1, q2.2))))
set_option maxRecDepth 100000 in
set_option maxHeartbeats 4000000 in
theorem w_X12_span {l : Launch} (fu : Nat) (x1 : Int32) (x2 : Int32) (x3 : Int32)     (M : xM)  : AW SM l RX12 cX12_span 4 (some .int) 79 ki (F_X12_span fu x1 x2 x3  M) 0 [some (xr 0), some (xi x1), some (xi x2), some (xi x3)] [] M := by
  unfold F_X12_span
  refine A_aload_n dX12_span_0 rfl ?_
  refine A_iconst (v := (0 : Int32)) dX12_span_1 oI_0 ?_
  refine A_puti lf_X12_180 rfl rfl dX12_span_2 ?_
  refine A_aload_n dX12_span_5 rfl ?_
  refine A_iload_n dX12_span_6 rfl ?_
  refine A_callVp (a_X12_isMachine (l := l) _ _ ) lc_X12_337 rfl rfl (by decide) (Nat.le_of_ble_eq_true rfl) rfl dX12_span_7 ?_
  refine A_if_eq (tgt := 40) dX12_span_10 (by decide) (fun _ => ?_) (fun _ => ?_)
  · refine A_iconst (v := (-1 : Int32)) dX12_span_40 oI_m1 ?_
    exact A_iret rfl dX12_span_41
  · refine A_aload_n dX12_span_13 rfl ?_
    refine A_iload_n dX12_span_14 rfl ?_
    refine A_callVi (a_X12_isOfOffice (l := l) _ _ ) lc_X12_384 rfl rfl (by decide) (Nat.le_of_ble_eq_true rfl) rfl dX12_span_15 (fun q1 Mq1 hq1 => ?_)
    refine A_if_eq (tgt := 40) dX12_span_18 (by decide) (fun _ => ?_) (fun _ => ?_)
    · refine A_iconst (v := (-1 : Int32)) dX12_span_40 oI_m1 ?_
      exact A_iret rfl dX12_span_41
    · refine A_iload_n dX12_span_21 rfl ?_
      refine A_iconst (v := (0 : Int32)) dX12_span_22 oI_0 ?_
      refine A_iconst (v := (1 : Int32)) dX12_span_23 oI_1 ?_
      refine A_callSp (a_X12_isIn (l := l) _ _ _ _ ) lc_X12_196 rfl (by decide) (Nat.le_of_ble_eq_true rfl) rfl dX12_span_24 ?_
      refine A_if_eq (tgt := 40) dX12_span_27 (by decide) (fun _ => ?_) (fun _ => ?_)
      · refine A_iconst (v := (-1 : Int32)) dX12_span_40 oI_m1 ?_
        exact A_iret rfl dX12_span_41
      · refine A_aload_n dX12_span_30 rfl ?_
        refine A_iload_n dX12_span_31 rfl ?_
        refine A_iload_n dX12_span_32 rfl ?_
        refine A_iload_n dX12_span_33 rfl ?_
        refine A_callVi (a_X12_spanOf (l := l) fu _ _ _ _ ) lc_X12_387 rfl rfl (by decide) (Nat.le_of_ble_eq_true rfl) rfl dX12_span_34 (fun q2 Mq2 hq2 => ?_)
        refine A_goto (tgt := 41) dX12_span_37 (by decide) ?_
        exact A_iret rfl dX12_span_41
theorem a_X12_span {l : Launch} (fu : Nat)  (x1 : Int32) (x2 : Int32) (x3 : Int32) (M : xM)  : AM SM l yX12_span cX12_span 4 (some .int) 79 ki [xr 0, xi x1, xi x2, xi x3] M (F_X12_span fu x1 x2 x3  M) :=
  AM.of (L0 := [some (xr 0), some (xi x1), some (xi x2), some (xi x3)]) (w_X12_span (l := l) fu x1 x2 x3  M ) (by decide +kernel) rfl (Nat.le_of_ble_eq_true rfl) ⟨rfl, rfl, rfl, rfl, trivial⟩
def F_X12_open_b49 (fu : Nat)  (x1 : Int32) (x2 : Int32)   (M : xM) : Option (Int32 × xM) :=
  (if x1 < 0 ∨ 6 ≤ x1.toNatClampNeg then none else
  some ((1 : Int32), (xset M 13 x1.toNatClampNeg x2)))
set_option maxRecDepth 100000 in
set_option maxHeartbeats 4000000 in
theorem a_X12_open_b49 {l : Launch} (fu : Nat) (x1 : Int32) (x2 : Int32)     (M : xM)  : AW SM l RX12 cX12_open 3 (some .boolean) 77 ki (F_X12_open_b49 fu x1 x2  M) 49 [some (xr 0), some (xi x1), some (xi x2)] [] M := by
  unfold F_X12_open_b49
  refine A_aload_n dX12_open_49 rfl ?_
  refine A_getr lf_X12_66 rfl rfl dX12_open_50 ?_
  refine A_iload_n dX12_open_53 rfl ?_
  refine A_iload_n dX12_open_54 rfl ?_
  refine A_iast rfl dX12_open_55 (fun _ => ?_)
  refine A_iconst (v := (1 : Int32)) dX12_open_56 oI_1 ?_
  exact A_zret' rfl (Or.inr rfl) dX12_open_57
def F_X12_open (fu : Nat)  (x1 : Int32) (x2 : Int32)   (M : xM) : Option (Int32 × xM) :=
  (if (P_X12_isMachine x1 (xset M 0 0 (0 : Int32))) = 0 then
  some ((0 : Int32), (xset M 0 0 (0 : Int32)))
  else
  (if x2 = (-1 : Int32) then
  F_X12_open_b49 fu x1 x2  (xset M 0 0 (0 : Int32))
  else
  (if x1 < 0 ∨ 6 ≤ x1.toNatClampNeg then none else
  (if (P_X12_isIn x2 (0 : Int32) (((1 : Int32) <<< (((xset M 0 0 (0 : Int32)) 15 x1.toNatClampNeg) &&& 31)) - (1 : Int32)) (xset M 0 0 (0 : Int32))) = 0 then
  some ((0 : Int32), (xset M 0 0 (0 : Int32)))
  else
  (F_X12_fits fu x1 x2 (xset M 0 0 (0 : Int32))).bind fun q1 =>
  (if q1.1 = 0 then
  some ((0 : Int32), q1.2)
  else
  F_X12_open_b49 fu x1 x2  q1.2)))))
set_option maxRecDepth 100000 in
set_option maxHeartbeats 4000000 in
theorem w_X12_open {l : Launch} (fu : Nat) (x1 : Int32) (x2 : Int32)     (M : xM)  : AW SM l RX12 cX12_open 3 (some .boolean) 77 ki (F_X12_open fu x1 x2  M) 0 [some (xr 0), some (xi x1), some (xi x2)] [] M := by
  unfold F_X12_open
  refine A_aload_n dX12_open_0 rfl ?_
  refine A_iconst (v := (0 : Int32)) dX12_open_1 oI_0 ?_
  refine A_puti lf_X12_180 rfl rfl dX12_open_2 ?_
  refine A_aload_n dX12_open_5 rfl ?_
  refine A_iload_n dX12_open_6 rfl ?_
  refine A_callVp (a_X12_isMachine (l := l) _ _ ) lc_X12_337 rfl rfl (by decide) (Nat.le_of_ble_eq_true rfl) rfl dX12_open_7 ?_
  refine A_if_ne (tgt := 15) dX12_open_10 (by decide) (fun _ => ?_) (fun _ => ?_)
  · refine A_iconst (v := (0 : Int32)) dX12_open_13 oI_0 ?_
    exact A_zret' rfl (Or.inl rfl) dX12_open_14
  · refine A_iload_n dX12_open_15 rfl ?_
    refine A_iconst (v := (-1 : Int32)) dX12_open_16 oI_m1 ?_
    refine A_icmp_eq (tgt := 49) dX12_open_17 (by decide) (fun _ => ?_) (fun _ => ?_)
    · exact (a_X12_open_b49 (l := l) fu x1 x2   _ ).sub ⟨rfl, rfl, rfl, trivial⟩
    · refine A_iload_n dX12_open_20 rfl ?_
      refine A_iconst (v := (0 : Int32)) dX12_open_21 oI_0 ?_
      refine A_iconst (v := (1 : Int32)) dX12_open_22 oI_1 ?_
      refine A_aload_n dX12_open_23 rfl ?_
      refine A_getr lf_X12_72 rfl rfl dX12_open_24 ?_
      refine A_iload_n dX12_open_27 rfl ?_
      refine A_iald rfl dX12_open_28 (fun _ => ?_)
      refine A_ishl dX12_open_29 ?_
      refine A_iconst (v := (1 : Int32)) dX12_open_30 oI_1 ?_
      refine A_isub dX12_open_31 ?_
      refine A_callSp (a_X12_isIn (l := l) _ _ _ _ ) lc_X12_196 rfl (by decide) (Nat.le_of_ble_eq_true rfl) rfl dX12_open_32 ?_
      refine A_if_eq (tgt := 47) dX12_open_35 (by decide) (fun _ => ?_) (fun _ => ?_)
      · refine A_iconst (v := (0 : Int32)) dX12_open_47 oI_0 ?_
        exact A_zret' rfl (Or.inl rfl) dX12_open_48
      · refine A_aload_n dX12_open_38 rfl ?_
        refine A_iload_n dX12_open_39 rfl ?_
        refine A_iload_n dX12_open_40 rfl ?_
        refine A_callVi (a_X12_fits (l := l) fu _ _ _ ) lc_X12_372 rfl rfl (by decide) (Nat.le_of_ble_eq_true rfl) rfl dX12_open_41 (fun q1 Mq1 hq1 => ?_)
        refine A_if_ne (tgt := 49) dX12_open_44 (by decide) (fun _ => ?_) (fun _ => ?_)
        · refine A_iconst (v := (0 : Int32)) dX12_open_47 oI_0 ?_
          exact A_zret' rfl (Or.inl rfl) dX12_open_48
        · exact (a_X12_open_b49 (l := l) fu x1 x2   _ ).sub ⟨rfl, rfl, rfl, trivial⟩
theorem a_X12_open {l : Launch} (fu : Nat)  (x1 : Int32) (x2 : Int32) (M : xM)  : AM SM l yX12_open cX12_open 3 (some .boolean) 77 ki [xr 0, xi x1, xi x2] M (F_X12_open fu x1 x2  M) :=
  AM.of (L0 := [some (xr 0), some (xi x1), some (xi x2)]) (w_X12_open (l := l) fu x1 x2  M ) (by decide +kernel) rfl (Nat.le_of_ble_eq_true rfl) ⟨rfl, rfl, rfl, trivial⟩
def F_X12_total_b29 (fu : Nat)  (x1 : Int32) (x2 : Int32)  : Nat → Int32 → Int32 → xM → Option (Int32 × xM)
  | 0, _, _, _ => none
  | n + 1, x3, x4, M =>
    (if (M 0 32) ≤ x4 then
    some (x3, M)
    else
    (F_X12_spanOf fu x4 x1 x2 M).bind fun q1 =>
    (if q1.1 = (-1 : Int32) then
    some ((-1 : Int32), q1.2)
    else
    F_X12_total_b29 fu x1 x2 n (x3 + q1.1) (x4 + (1 : Int32)) q1.2))
set_option maxRecDepth 100000 in
set_option maxHeartbeats 4000000 in
theorem a_X12_total_b29 {l : Launch} (fu : Nat) (x1 : Int32) (x2 : Int32)    : ∀ (n : Nat) (x3 : Int32) (x4 : Int32) (M : xM), AW SM l RX12 cX12_total 6 (some .int) 79 ki (F_X12_total_b29 fu x1 x2 n x3 x4 M) 29 [some (xr 0), some (xi x1), some (xi x2), some (xi x3), some (xi x4), none] [] M := by
  intro n
  induction n with
  | zero =>
    intro x3 x4 M
    exact AW.none
  | succ n ih =>
    intro x3 x4 M
    rw [F_X12_total_b29]
    refine A_iload dX12_total_29 rfl ?_
    refine A_aload_n dX12_total_31 rfl ?_
    refine A_geti lf_X12_331 rfl rfl dX12_total_32 ?_
    refine A_icmp_ge (tgt := 67) dX12_total_35 (by decide) (fun _ => ?_) (fun _ => ?_)
    · refine A_iload_n dX12_total_67 rfl ?_
      exact A_iret rfl dX12_total_68
    · refine A_aload_n dX12_total_38 rfl ?_
      refine A_iload dX12_total_39 rfl ?_
      refine A_iload_n dX12_total_41 rfl ?_
      refine A_iload_n dX12_total_42 rfl ?_
      refine A_callVi (a_X12_spanOf (l := l) fu _ _ _ _ ) lc_X12_387 rfl rfl (by decide) (Nat.le_of_ble_eq_true rfl) rfl dX12_total_43 (fun q1 Mq1 hq1 => ?_)
      refine A_istore dX12_total_46 (Nat.le_of_ble_eq_true rfl) rfl ?_
      refine A_iload dX12_total_48 rfl ?_
      refine A_iconst (v := (-1 : Int32)) dX12_total_50 oI_m1 ?_
      refine A_icmp_ne (tgt := 56) dX12_total_51 (by decide) (fun _ => ?_) (fun _ => ?_)
      · refine A_iconst (v := (-1 : Int32)) dX12_total_54 oI_m1 ?_
        exact A_iret rfl dX12_total_55
      · refine A_iload_n dX12_total_56 rfl ?_
        refine A_iload dX12_total_57 rfl ?_
        refine A_iadd dX12_total_59 ?_
        refine A_istore_n dX12_total_60 (Nat.le_of_ble_eq_true rfl) rfl ?_
        refine A_iinc dX12_total_61 rfl oI_1 (Nat.le_of_ble_eq_true rfl) rfl ?_
        refine A_goto (tgt := 29) dX12_total_64 (by decide) ?_
        exact (ih _ _ _).sub ⟨rfl, rfl, rfl, rfl, rfl, trivial⟩
def F_X12_total (fu : Nat)  (x1 : Int32) (x2 : Int32)   (M : xM) : Option (Int32 × xM) :=
  (F_X12_isOfOffice x1 (xset M 0 0 (0 : Int32))).bind fun q1 =>
  (if q1.1 = 0 then
  some ((-1 : Int32), q1.2)
  else
  (if (P_X12_isIn x2 (0 : Int32) (1 : Int32) q1.2) = 0 then
  some ((-1 : Int32), q1.2)
  else
  F_X12_total_b29 fu x1 x2 fu (0 : Int32) (0 : Int32) q1.2))
set_option maxRecDepth 100000 in
set_option maxHeartbeats 4000000 in
theorem w_X12_total {l : Launch} (fu : Nat) (x1 : Int32) (x2 : Int32)     (M : xM)  : AW SM l RX12 cX12_total 6 (some .int) 79 ki (F_X12_total fu x1 x2  M) 0 [some (xr 0), some (xi x1), some (xi x2), none, none, none] [] M := by
  unfold F_X12_total
  refine A_aload_n dX12_total_0 rfl ?_
  refine A_iconst (v := (0 : Int32)) dX12_total_1 oI_0 ?_
  refine A_puti lf_X12_180 rfl rfl dX12_total_2 ?_
  refine A_aload_n dX12_total_5 rfl ?_
  refine A_iload_n dX12_total_6 rfl ?_
  refine A_callVi (a_X12_isOfOffice (l := l) _ _ ) lc_X12_384 rfl rfl (by decide) (Nat.le_of_ble_eq_true rfl) rfl dX12_total_7 (fun q1 Mq1 hq1 => ?_)
  refine A_if_eq (tgt := 22) dX12_total_10 (by decide) (fun _ => ?_) (fun _ => ?_)
  · refine A_iconst (v := (-1 : Int32)) dX12_total_22 oI_m1 ?_
    exact A_iret rfl dX12_total_23
  · refine A_iload_n dX12_total_13 rfl ?_
    refine A_iconst (v := (0 : Int32)) dX12_total_14 oI_0 ?_
    refine A_iconst (v := (1 : Int32)) dX12_total_15 oI_1 ?_
    refine A_callSp (a_X12_isIn (l := l) _ _ _ _ ) lc_X12_196 rfl (by decide) (Nat.le_of_ble_eq_true rfl) rfl dX12_total_16 ?_
    refine A_if_ne (tgt := 24) dX12_total_19 (by decide) (fun _ => ?_) (fun _ => ?_)
    · refine A_iconst (v := (-1 : Int32)) dX12_total_22 oI_m1 ?_
      exact A_iret rfl dX12_total_23
    · refine A_iconst (v := (0 : Int32)) dX12_total_24 oI_0 ?_
      refine A_istore_n dX12_total_25 (Nat.le_of_ble_eq_true rfl) rfl ?_
      refine A_iconst (v := (0 : Int32)) dX12_total_26 oI_0 ?_
      refine A_istore dX12_total_27 (Nat.le_of_ble_eq_true rfl) rfl ?_
      exact (a_X12_total_b29 (l := l) fu x1 x2  fu _ _ _).sub ⟨rfl, rfl, rfl, rfl, rfl, trivial⟩
theorem a_X12_total {l : Launch} (fu : Nat)  (x1 : Int32) (x2 : Int32) (M : xM)  : AM SM l yX12_total cX12_total 6 (some .int) 79 ki [xr 0, xi x1, xi x2] M (F_X12_total fu x1 x2  M) :=
  AM.of (L0 := [some (xr 0), some (xi x1), some (xi x2), none, none, none]) (w_X12_total (l := l) fu x1 x2  M ) (by decide +kernel) rfl (Nat.le_of_ble_eq_true rfl) ⟨rfl, rfl, rfl, trivial⟩
def F_X12_aheadNow (fu : Nat)  (x1 : Int32) (x2 : Int32)   (M : xM) : Option (Int32 × xM) :=
  (if x1 < 0 ∨ 16 ≤ x1.toNatClampNeg then none else
  (if x1 < 0 ∨ 16 ≤ x1.toNatClampNeg then none else
  (F_X12_boundOf (M 3 x1.toNatClampNeg) M).bind fun q1 =>
  (F_X12_sumOfLeast fu (M 3 x1.toNatClampNeg) q1.2).bind fun q2 =>
  (if x2 < 0 ∨ 16 ≤ x2.toNatClampNeg then none else
  (F_X12_greatest fu x2 ((q1.1 - q2.1) + (q2.2 22 x2.toNatClampNeg)) q2.2).bind fun q3 =>
  some (((M 22 x1.toNatClampNeg) - q3.1), q3.2))))
set_option maxRecDepth 100000 in
set_option maxHeartbeats 4000000 in
theorem w_X12_aheadNow {l : Launch} (fu : Nat) (x1 : Int32) (x2 : Int32)     (M : xM)  : AW SM l RX12 cX12_aheadNow 4 (some .int) 3 ki (F_X12_aheadNow fu x1 x2  M) 0 [some (xr 0), some (xi x1), some (xi x2), none] [] M := by
  unfold F_X12_aheadNow
  refine A_aload_n dX12_aheadNow_0 rfl ?_
  refine A_getr lf_X12_16 rfl rfl dX12_aheadNow_1 ?_
  refine A_iload_n dX12_aheadNow_4 rfl ?_
  refine A_iald rfl dX12_aheadNow_5 (fun _ => ?_)
  refine A_istore_n dX12_aheadNow_6 (Nat.le_of_ble_eq_true rfl) rfl ?_
  refine A_aload_n dX12_aheadNow_7 rfl ?_
  refine A_getr lf_X12_93 rfl rfl dX12_aheadNow_8 ?_
  refine A_iload_n dX12_aheadNow_11 rfl ?_
  refine A_iald rfl dX12_aheadNow_12 (fun _ => ?_)
  refine A_aload_n dX12_aheadNow_13 rfl ?_
  refine A_iload_n dX12_aheadNow_14 rfl ?_
  refine A_aload_n dX12_aheadNow_15 rfl ?_
  refine A_iload_n dX12_aheadNow_16 rfl ?_
  refine A_callVi (a_X12_boundOf (l := l) _ _ ) lc_X12_369 rfl rfl (by decide) (Nat.le_of_ble_eq_true rfl) rfl dX12_aheadNow_17 (fun q1 Mq1 hq1 => ?_)
  refine A_aload_n dX12_aheadNow_20 rfl ?_
  refine A_iload_n dX12_aheadNow_21 rfl ?_
  refine A_callVi (a_X12_sumOfLeast (l := l) fu _ _ ) lc_X12_366 rfl rfl (by decide) (Nat.le_of_ble_eq_true rfl) rfl dX12_aheadNow_22 (fun q2 Mq2 hq2 => ?_)
  refine A_isub dX12_aheadNow_25 ?_
  refine A_aload_n dX12_aheadNow_26 rfl ?_
  refine A_getr lf_X12_93 rfl rfl dX12_aheadNow_27 ?_
  refine A_iload_n dX12_aheadNow_30 rfl ?_
  refine A_iald rfl dX12_aheadNow_31 (fun _ => ?_)
  refine A_iadd dX12_aheadNow_32 ?_
  refine A_callVi (a_X12_greatest (l := l) fu _ _ _ ) lc_X12_381 rfl rfl (by decide) (Nat.le_of_ble_eq_true rfl) rfl dX12_aheadNow_33 (fun q3 Mq3 hq3 => ?_)
  refine A_isub dX12_aheadNow_36 ?_
  exact A_iret rfl dX12_aheadNow_37
theorem a_X12_aheadNow {l : Launch} (fu : Nat)  (x1 : Int32) (x2 : Int32) (M : xM)  : AM SM l yX12_aheadNow cX12_aheadNow 4 (some .int) 3 ki [xr 0, xi x1, xi x2] M (F_X12_aheadNow fu x1 x2  M) :=
  AM.of (L0 := [some (xr 0), some (xi x1), some (xi x2), none]) (w_X12_aheadNow (l := l) fu x1 x2  M ) (by decide +kernel) rfl (Nat.le_of_ble_eq_true rfl) ⟨rfl, rfl, rfl, trivial⟩
def F_X12_aheadIn_b99 (fu : Nat)  (x1 : Int32) (x2 : Int32) (x3 : Int32) (x4 : Int32) (k8 : Int32 → Int32 → xM → Option (Int32 × xM)) (x5 : Int32) (x6 : Int32) (M : xM) : Option (Int32 × xM) :=
  k8 x5 (x6 + (1 : Int32)) M
set_option maxRecDepth 100000 in
set_option maxHeartbeats 4000000 in
theorem a_X12_aheadIn_b99 {l : Launch} (fu : Nat) (x1 : Int32) (x2 : Int32) (x3 : Int32) (x4 : Int32)  {k8 : Int32 → Int32 → xM → Option (Int32 × xM)} (hk8 : ∀ (b0 : Int32) (b1 : Int32) (M : xM), AW SM l RX12 cX12_aheadIn 9 (some .int) 78 ki (k8 b0 b1 M) 8 [some (xr 0), some (xi x1), some (xi x2), some (xi x3), some (xi x4), some (xi b0), some (xi b1), none, none] [] M) (x5 : Int32) (x6 : Int32) (M : xM)  : AW SM l RX12 cX12_aheadIn 9 (some .int) 78 ki (F_X12_aheadIn_b99 fu x1 x2 x3 x4 k8 x5 x6 M) 99 [some (xr 0), some (xi x1), some (xi x2), some (xi x3), some (xi x4), some (xi x5), some (xi x6), none, none] [] M := by
  unfold F_X12_aheadIn_b99
  refine A_iinc dX12_aheadIn_99 rfl oI_1 (Nat.le_of_ble_eq_true rfl) rfl ?_
  refine A_goto (tgt := 8) dX12_aheadIn_102 (by decide) ?_
  exact (hk8 _ _ _).sub ⟨rfl, rfl, rfl, rfl, rfl, rfl, rfl, trivial⟩
def F_X12_aheadIn_b97 (fu : Nat)  (x1 : Int32) (x2 : Int32) (x3 : Int32) (x4 : Int32) (k8 : Int32 → Int32 → xM → Option (Int32 × xM)) (x6 : Int32) (s0 : Int32) (M : xM) : Option (Int32 × xM) :=
  F_X12_aheadIn_b99 fu x1 x2 x3 x4 k8 s0 x6 M
set_option maxRecDepth 100000 in
set_option maxHeartbeats 4000000 in
theorem a_X12_aheadIn_b97 {l : Launch} (fu : Nat) (x1 : Int32) (x2 : Int32) (x3 : Int32) (x4 : Int32)  {k8 : Int32 → Int32 → xM → Option (Int32 × xM)} (hk8 : ∀ (b0 : Int32) (b1 : Int32) (M : xM), AW SM l RX12 cX12_aheadIn 9 (some .int) 78 ki (k8 b0 b1 M) 8 [some (xr 0), some (xi x1), some (xi x2), some (xi x3), some (xi x4), some (xi b0), some (xi b1), none, none] [] M) (x6 : Int32) (s0 : Int32) (M : xM)  : AW SM l RX12 cX12_aheadIn 9 (some .int) 78 ki (F_X12_aheadIn_b97 fu x1 x2 x3 x4 k8 x6 s0 M) 97 [some (xr 0), some (xi x1), some (xi x2), some (xi x3), some (xi x4), none, some (xi x6), none, none] [xi s0] M := by
  unfold F_X12_aheadIn_b97
  refine A_istore dX12_aheadIn_97 (Nat.le_of_ble_eq_true rfl) rfl ?_
  exact (a_X12_aheadIn_b99 (l := l) fu x1 x2 x3 x4 hk8 _ _ _ ).sub ⟨rfl, rfl, rfl, rfl, rfl, rfl, rfl, trivial⟩
def F_X12_aheadIn_b59 (fu : Nat)  (x1 : Int32) (x2 : Int32) (x3 : Int32) (x4 : Int32) (k8 : Int32 → Int32 → xM → Option (Int32 × xM)) (x5 : Int32) (x6 : Int32) (s0 : Int32) (M : xM) : Option (Int32 × xM) :=
  (if s0 = 0 then
  F_X12_aheadIn_b99 fu x1 x2 x3 x4 k8 x5 x6 M
  else
  (F_X12_aheadNow fu x2 x3 M).bind fun q1 =>
  (if x5 = (-100000 : Int32) then
  F_X12_aheadIn_b97 fu x1 x2 x3 x4 k8 x6 q1.1 q1.2
  else
  F_X12_aheadIn_b97 fu x1 x2 x3 x4 k8 x6 (jmin x5 q1.1) q1.2))
set_option maxRecDepth 100000 in
set_option maxHeartbeats 4000000 in
theorem a_X12_aheadIn_b59 {l : Launch} (fu : Nat) (x1 : Int32) (x2 : Int32) (x3 : Int32) (x4 : Int32)  {k8 : Int32 → Int32 → xM → Option (Int32 × xM)} (hk8 : ∀ (b0 : Int32) (b1 : Int32) (M : xM), AW SM l RX12 cX12_aheadIn 9 (some .int) 78 ki (k8 b0 b1 M) 8 [some (xr 0), some (xi x1), some (xi x2), some (xi x3), some (xi x4), some (xi b0), some (xi b1), none, none] [] M) (x5 : Int32) (x6 : Int32) (s0 : Int32) (M : xM)  : AW SM l RX12 cX12_aheadIn 9 (some .int) 78 ki (F_X12_aheadIn_b59 fu x1 x2 x3 x4 k8 x5 x6 s0 M) 59 [some (xr 0), some (xi x1), some (xi x2), some (xi x3), some (xi x4), some (xi x5), some (xi x6), none, none] [xi s0] M := by
  unfold F_X12_aheadIn_b59
  refine A_istore dX12_aheadIn_59 (Nat.le_of_ble_eq_true rfl) rfl ?_
  refine A_iload dX12_aheadIn_61 rfl ?_
  refine A_if_ne (tgt := 69) dX12_aheadIn_63 (by decide) (fun _ => ?_) (fun _ => ?_)
  · refine A_goto (tgt := 99) dX12_aheadIn_66 (by decide) ?_
    exact (a_X12_aheadIn_b99 (l := l) fu x1 x2 x3 x4 hk8 _ _ _ ).sub ⟨rfl, rfl, rfl, rfl, rfl, rfl, rfl, trivial⟩
  · refine A_aload_n dX12_aheadIn_69 rfl ?_
    refine A_iload_n dX12_aheadIn_70 rfl ?_
    refine A_iload_n dX12_aheadIn_71 rfl ?_
    refine A_callVi (a_X12_aheadNow (l := l) fu _ _ _ ) lc_X12_392 rfl rfl (by decide) (Nat.le_of_ble_eq_true rfl) rfl dX12_aheadIn_72 (fun q1 Mq1 hq1 => ?_)
    refine A_istore dX12_aheadIn_75 (Nat.le_of_ble_eq_true rfl) rfl ?_
    refine A_iload dX12_aheadIn_77 rfl ?_
    refine A_ldcw (v := (-100000 : Int32)) dX12_aheadIn_79 lk_X12_391 ?_
    refine A_icmp_ne (tgt := 90) dX12_aheadIn_82 (by decide) (fun _ => ?_) (fun _ => ?_)
    · refine A_iload dX12_aheadIn_85 rfl ?_
      refine A_goto (tgt := 97) dX12_aheadIn_87 (by decide) ?_
      exact (a_X12_aheadIn_b97 (l := l) fu x1 x2 x3 x4 hk8 _ _ _ ).sub ⟨rfl, rfl, rfl, rfl, rfl, rfl, trivial⟩
    · refine A_iload dX12_aheadIn_90 rfl ?_
      refine A_iload dX12_aheadIn_92 rfl ?_
      refine A_jmin lc_X12_168 (by decide) (Nat.le_of_ble_eq_true rfl) dX12_aheadIn_94 ?_
      exact (a_X12_aheadIn_b97 (l := l) fu x1 x2 x3 x4 hk8 _ _ _ ).sub ⟨rfl, rfl, rfl, rfl, rfl, rfl, trivial⟩
def F_X12_aheadIn_b58 (fu : Nat)  (x1 : Int32) (x2 : Int32) (x3 : Int32) (x4 : Int32) (k8 : Int32 → Int32 → xM → Option (Int32 × xM)) (x5 : Int32) (x6 : Int32) (M : xM) : Option (Int32 × xM) :=
  F_X12_aheadIn_b59 fu x1 x2 x3 x4 k8 x5 x6 (0 : Int32) M
set_option maxRecDepth 100000 in
set_option maxHeartbeats 4000000 in
theorem a_X12_aheadIn_b58 {l : Launch} (fu : Nat) (x1 : Int32) (x2 : Int32) (x3 : Int32) (x4 : Int32)  {k8 : Int32 → Int32 → xM → Option (Int32 × xM)} (hk8 : ∀ (b0 : Int32) (b1 : Int32) (M : xM), AW SM l RX12 cX12_aheadIn 9 (some .int) 78 ki (k8 b0 b1 M) 8 [some (xr 0), some (xi x1), some (xi x2), some (xi x3), some (xi x4), some (xi b0), some (xi b1), none, none] [] M) (x5 : Int32) (x6 : Int32) (M : xM)  : AW SM l RX12 cX12_aheadIn 9 (some .int) 78 ki (F_X12_aheadIn_b58 fu x1 x2 x3 x4 k8 x5 x6 M) 58 [some (xr 0), some (xi x1), some (xi x2), some (xi x3), some (xi x4), some (xi x5), some (xi x6), none, none] [] M := by
  unfold F_X12_aheadIn_b58
  refine A_iconst (v := (0 : Int32)) dX12_aheadIn_58 oI_0 ?_
  exact (a_X12_aheadIn_b59 (l := l) fu x1 x2 x3 x4 hk8 _ _ _ _ ).sub ⟨rfl, rfl, rfl, rfl, rfl, rfl, rfl, trivial⟩
def F_X12_aheadIn_b8 (fu : Nat)  (x1 : Int32) (x2 : Int32) (x3 : Int32) (x4 : Int32)  : Nat → Int32 → Int32 → xM → Option (Int32 × xM)
  | 0, _, _, _ => none
  | n + 1, x5, x6, M =>
    (if x1 < 0 ∨ 6 ≤ x1.toNatClampNeg then none else
    (if ((1 : Int32) <<< ((M 15 x1.toNatClampNeg) &&& 31)) ≤ x6 then
    some (x5, M)
    else
    (if x4 = (-1 : Int32) then
    (F_X12_counts fu x1 x6 M).bind fun q2 =>
    F_X12_aheadIn_b59 fu x1 x2 x3 x4 (F_X12_aheadIn_b8 fu x1 x2 x3 x4 n) x5 x6 q2.1 q2.2
    else
    (if x6 = x4 then
    (F_X12_fits fu x1 x6 M).bind fun q1 =>
    (if q1.1 = 0 then
    F_X12_aheadIn_b58 fu x1 x2 x3 x4 (F_X12_aheadIn_b8 fu x1 x2 x3 x4 n) x5 x6 q1.2
    else
    F_X12_aheadIn_b59 fu x1 x2 x3 x4 (F_X12_aheadIn_b8 fu x1 x2 x3 x4 n) x5 x6 (1 : Int32) q1.2)
    else
    F_X12_aheadIn_b58 fu x1 x2 x3 x4 (F_X12_aheadIn_b8 fu x1 x2 x3 x4 n) x5 x6 M))))
set_option maxRecDepth 100000 in
set_option maxHeartbeats 4000000 in
theorem a_X12_aheadIn_b8 {l : Launch} (fu : Nat) (x1 : Int32) (x2 : Int32) (x3 : Int32) (x4 : Int32)    : ∀ (n : Nat) (x5 : Int32) (x6 : Int32) (M : xM), AW SM l RX12 cX12_aheadIn 9 (some .int) 78 ki (F_X12_aheadIn_b8 fu x1 x2 x3 x4 n x5 x6 M) 8 [some (xr 0), some (xi x1), some (xi x2), some (xi x3), some (xi x4), some (xi x5), some (xi x6), none, none] [] M := by
  intro n
  induction n with
  | zero =>
    intro x5 x6 M
    exact AW.none
  | succ n ih =>
    intro x5 x6 M
    rw [F_X12_aheadIn_b8]
    refine A_iload dX12_aheadIn_8 rfl ?_
    refine A_iconst (v := (1 : Int32)) dX12_aheadIn_10 oI_1 ?_
    refine A_aload_n dX12_aheadIn_11 rfl ?_
    refine A_getr lf_X12_72 rfl rfl dX12_aheadIn_12 ?_
    refine A_iload_n dX12_aheadIn_15 rfl ?_
    refine A_iald rfl dX12_aheadIn_16 (fun _ => ?_)
    refine A_ishl dX12_aheadIn_17 ?_
    refine A_icmp_ge (tgt := 105) dX12_aheadIn_18 (by decide) (fun _ => ?_) (fun _ => ?_)
    · refine A_iload dX12_aheadIn_105 rfl ?_
      exact A_iret rfl dX12_aheadIn_107
    · refine A_iload dX12_aheadIn_21 rfl ?_
      refine A_iconst (v := (-1 : Int32)) dX12_aheadIn_23 oI_m1 ?_
      refine A_icmp_ne (tgt := 37) dX12_aheadIn_24 (by decide) (fun _ => ?_) (fun _ => ?_)
      · refine A_aload_n dX12_aheadIn_27 rfl ?_
        refine A_iload_n dX12_aheadIn_28 rfl ?_
        refine A_iload dX12_aheadIn_29 rfl ?_
        refine A_callVi (a_X12_counts (l := l) fu _ _ _ ) lc_X12_378 rfl rfl (by decide) (Nat.le_of_ble_eq_true rfl) rfl dX12_aheadIn_31 (fun q2 Mq2 hq2 => ?_)
        refine A_goto (tgt := 59) dX12_aheadIn_34 (by decide) ?_
        exact (a_X12_aheadIn_b59 (l := l) fu x1 x2 x3 x4 ih _ _ _ _ ).sub ⟨rfl, rfl, rfl, rfl, rfl, rfl, rfl, trivial⟩
      · refine A_iload dX12_aheadIn_37 rfl ?_
        refine A_iload dX12_aheadIn_39 rfl ?_
        refine A_icmp_ne (tgt := 58) dX12_aheadIn_41 (by decide) (fun _ => ?_) (fun _ => ?_)
        · refine A_aload_n dX12_aheadIn_44 rfl ?_
          refine A_iload_n dX12_aheadIn_45 rfl ?_
          refine A_iload dX12_aheadIn_46 rfl ?_
          refine A_callVi (a_X12_fits (l := l) fu _ _ _ ) lc_X12_372 rfl rfl (by decide) (Nat.le_of_ble_eq_true rfl) rfl dX12_aheadIn_48 (fun q1 Mq1 hq1 => ?_)
          refine A_if_eq (tgt := 58) dX12_aheadIn_51 (by decide) (fun _ => ?_) (fun _ => ?_)
          · exact (a_X12_aheadIn_b58 (l := l) fu x1 x2 x3 x4 ih _ _ _ ).sub ⟨rfl, rfl, rfl, rfl, rfl, rfl, rfl, trivial⟩
          · refine A_iconst (v := (1 : Int32)) dX12_aheadIn_54 oI_1 ?_
            refine A_goto (tgt := 59) dX12_aheadIn_55 (by decide) ?_
            exact (a_X12_aheadIn_b59 (l := l) fu x1 x2 x3 x4 ih _ _ _ _ ).sub ⟨rfl, rfl, rfl, rfl, rfl, rfl, rfl, trivial⟩
        · exact (a_X12_aheadIn_b58 (l := l) fu x1 x2 x3 x4 ih _ _ _ ).sub ⟨rfl, rfl, rfl, rfl, rfl, rfl, rfl, trivial⟩
def F_X12_aheadIn (fu : Nat)  (x1 : Int32) (x2 : Int32) (x3 : Int32) (x4 : Int32)   (M : xM) : Option (Int32 × xM) :=
  F_X12_aheadIn_b8 fu x1 x2 x3 x4 fu (-100000 : Int32) (0 : Int32) M
set_option maxRecDepth 100000 in
set_option maxHeartbeats 4000000 in
theorem w_X12_aheadIn {l : Launch} (fu : Nat) (x1 : Int32) (x2 : Int32) (x3 : Int32) (x4 : Int32)     (M : xM)  : AW SM l RX12 cX12_aheadIn 9 (some .int) 78 ki (F_X12_aheadIn fu x1 x2 x3 x4  M) 0 [some (xr 0), some (xi x1), some (xi x2), some (xi x3), some (xi x4), none, none, none, none] [] M := by
  unfold F_X12_aheadIn
  refine A_ldcw (v := (-100000 : Int32)) dX12_aheadIn_0 lk_X12_391 ?_
  refine A_istore dX12_aheadIn_3 (Nat.le_of_ble_eq_true rfl) rfl ?_
  refine A_iconst (v := (0 : Int32)) dX12_aheadIn_5 oI_0 ?_
  refine A_istore dX12_aheadIn_6 (Nat.le_of_ble_eq_true rfl) rfl ?_
  exact (a_X12_aheadIn_b8 (l := l) fu x1 x2 x3 x4  fu _ _ _).sub ⟨rfl, rfl, rfl, rfl, rfl, rfl, rfl, trivial⟩
theorem a_X12_aheadIn {l : Launch} (fu : Nat)  (x1 : Int32) (x2 : Int32) (x3 : Int32) (x4 : Int32) (M : xM)  : AM SM l yX12_aheadIn cX12_aheadIn 9 (some .int) 78 ki [xr 0, xi x1, xi x2, xi x3, xi x4] M (F_X12_aheadIn fu x1 x2 x3 x4  M) :=
  AM.of (L0 := [some (xr 0), some (xi x1), some (xi x2), some (xi x3), some (xi x4), none, none, none, none]) (w_X12_aheadIn (l := l) fu x1 x2 x3 x4  M ) (by decide +kernel) rfl (Nat.le_of_ble_eq_true rfl) ⟨rfl, rfl, rfl, rfl, rfl, trivial⟩
def F_X12_aheadOf_b5 (fu : Nat)  (x1 : Int32) (x2 : Int32)  : Nat → Int32 → Int32 → xM → Option (Int32 × xM)
  | 0, _, _, _ => none
  | n + 1, x3, x4, M =>
    (if (M 0 32) ≤ x4 then
    some (x3, M)
    else
    (F_X12_aheadIn fu x4 x1 x2 (-1 : Int32) M).bind fun q1 =>
    (if q1.1 = (-100000 : Int32) then
    some ((-100000 : Int32), q1.2)
    else
    F_X12_aheadOf_b5 fu x1 x2 n (x3 + q1.1) (x4 + (1 : Int32)) q1.2))
set_option maxRecDepth 100000 in
set_option maxHeartbeats 4000000 in
theorem a_X12_aheadOf_b5 {l : Launch} (fu : Nat) (x1 : Int32) (x2 : Int32)    : ∀ (n : Nat) (x3 : Int32) (x4 : Int32) (M : xM), AW SM l RX12 cX12_aheadOf 6 (some .int) 79 ki (F_X12_aheadOf_b5 fu x1 x2 n x3 x4 M) 5 [some (xr 0), some (xi x1), some (xi x2), some (xi x3), some (xi x4), none] [] M := by
  intro n
  induction n with
  | zero =>
    intro x3 x4 M
    exact AW.none
  | succ n ih =>
    intro x3 x4 M
    rw [F_X12_aheadOf_b5]
    refine A_iload dX12_aheadOf_5 rfl ?_
    refine A_aload_n dX12_aheadOf_7 rfl ?_
    refine A_geti lf_X12_331 rfl rfl dX12_aheadOf_8 ?_
    refine A_icmp_ge (tgt := 48) dX12_aheadOf_11 (by decide) (fun _ => ?_) (fun _ => ?_)
    · refine A_iload_n dX12_aheadOf_48 rfl ?_
      exact A_iret rfl dX12_aheadOf_49
    · refine A_aload_n dX12_aheadOf_14 rfl ?_
      refine A_iload dX12_aheadOf_15 rfl ?_
      refine A_iload_n dX12_aheadOf_17 rfl ?_
      refine A_iload_n dX12_aheadOf_18 rfl ?_
      refine A_iconst (v := (-1 : Int32)) dX12_aheadOf_19 oI_m1 ?_
      refine A_callVi (a_X12_aheadIn (l := l) fu _ _ _ _ _ ) lc_X12_395 rfl rfl (by decide) (Nat.le_of_ble_eq_true rfl) rfl dX12_aheadOf_20 (fun q1 Mq1 hq1 => ?_)
      refine A_istore dX12_aheadOf_23 (Nat.le_of_ble_eq_true rfl) rfl ?_
      refine A_iload dX12_aheadOf_25 rfl ?_
      refine A_ldcw (v := (-100000 : Int32)) dX12_aheadOf_27 lk_X12_391 ?_
      refine A_icmp_ne (tgt := 37) dX12_aheadOf_30 (by decide) (fun _ => ?_) (fun _ => ?_)
      · refine A_ldcw (v := (-100000 : Int32)) dX12_aheadOf_33 lk_X12_391 ?_
        exact A_iret rfl dX12_aheadOf_36
      · refine A_iload_n dX12_aheadOf_37 rfl ?_
        refine A_iload dX12_aheadOf_38 rfl ?_
        refine A_iadd dX12_aheadOf_40 ?_
        refine A_istore_n dX12_aheadOf_41 (Nat.le_of_ble_eq_true rfl) rfl ?_
        refine A_iinc dX12_aheadOf_42 rfl oI_1 (Nat.le_of_ble_eq_true rfl) rfl ?_
        refine A_goto (tgt := 5) dX12_aheadOf_45 (by decide) ?_
        exact (ih _ _ _).sub ⟨rfl, rfl, rfl, rfl, rfl, trivial⟩
def F_X12_aheadOf (fu : Nat)  (x1 : Int32) (x2 : Int32)   (M : xM) : Option (Int32 × xM) :=
  F_X12_aheadOf_b5 fu x1 x2 fu (0 : Int32) (0 : Int32) M
set_option maxRecDepth 100000 in
set_option maxHeartbeats 4000000 in
theorem w_X12_aheadOf {l : Launch} (fu : Nat) (x1 : Int32) (x2 : Int32)     (M : xM)  : AW SM l RX12 cX12_aheadOf 6 (some .int) 79 ki (F_X12_aheadOf fu x1 x2  M) 0 [some (xr 0), some (xi x1), some (xi x2), none, none, none] [] M := by
  unfold F_X12_aheadOf
  refine A_iconst (v := (0 : Int32)) dX12_aheadOf_0 oI_0 ?_
  refine A_istore_n dX12_aheadOf_1 (Nat.le_of_ble_eq_true rfl) rfl ?_
  refine A_iconst (v := (0 : Int32)) dX12_aheadOf_2 oI_0 ?_
  refine A_istore dX12_aheadOf_3 (Nat.le_of_ble_eq_true rfl) rfl ?_
  exact (a_X12_aheadOf_b5 (l := l) fu x1 x2  fu _ _ _).sub ⟨rfl, rfl, rfl, rfl, rfl, trivial⟩
theorem a_X12_aheadOf {l : Launch} (fu : Nat)  (x1 : Int32) (x2 : Int32) (M : xM)  : AM SM l yX12_aheadOf cX12_aheadOf 6 (some .int) 79 ki [xr 0, xi x1, xi x2] M (F_X12_aheadOf fu x1 x2  M) :=
  AM.of (L0 := [some (xr 0), some (xi x1), some (xi x2), none, none, none]) (w_X12_aheadOf (l := l) fu x1 x2  M ) (by decide +kernel) rfl (Nat.le_of_ble_eq_true rfl) ⟨rfl, rfl, rfl, trivial⟩
def F_X12_ahead (fu : Nat)  (x1 : Int32) (x2 : Int32)   (M : xM) : Option (Int32 × xM) :=
  (F_X12_isOfOffice x1 (xset M 0 0 (0 : Int32))).bind fun q1 =>
  (if q1.1 = 0 then
  some ((-100000 : Int32), q1.2)
  else
  (F_X12_isOfOffice x2 q1.2).bind fun q2 =>
  (if q2.1 = 0 then
  some ((-100000 : Int32), q2.2)
  else
  (if x1 = x2 then
  some ((-100000 : Int32), q2.2)
  else
  (if x1 < 0 ∨ 16 ≤ x1.toNatClampNeg then none else
  (if x2 < 0 ∨ 16 ≤ x2.toNatClampNeg then none else
  (if (q2.2 3 x1.toNatClampNeg) = (q2.2 3 x2.toNatClampNeg) then
  (F_X12_aheadOf fu x1 x2 q2.2).bind fun q3 =>
  some (q3.1, q3.2)
  else
  some ((-100000 : Int32), q2.2)))))))
set_option maxRecDepth 100000 in
set_option maxHeartbeats 4000000 in
theorem w_X12_ahead {l : Launch} (fu : Nat) (x1 : Int32) (x2 : Int32)     (M : xM)  : AW SM l RX12 cX12_ahead 3 (some .int) 80 ki (F_X12_ahead fu x1 x2  M) 0 [some (xr 0), some (xi x1), some (xi x2)] [] M := by
  unfold F_X12_ahead
  refine A_aload_n dX12_ahead_0 rfl ?_
  refine A_iconst (v := (0 : Int32)) dX12_ahead_1 oI_0 ?_
  refine A_puti lf_X12_180 rfl rfl dX12_ahead_2 ?_
  refine A_aload_n dX12_ahead_5 rfl ?_
  refine A_iload_n dX12_ahead_6 rfl ?_
  refine A_callVi (a_X12_isOfOffice (l := l) _ _ ) lc_X12_384 rfl rfl (by decide) (Nat.le_of_ble_eq_true rfl) rfl dX12_ahead_7 (fun q1 Mq1 hq1 => ?_)
  refine A_if_eq (tgt := 50) dX12_ahead_10 (by decide) (fun _ => ?_) (fun _ => ?_)
  · refine A_ldcw (v := (-100000 : Int32)) dX12_ahead_50 lk_X12_391 ?_
    exact A_iret rfl dX12_ahead_53
  · refine A_aload_n dX12_ahead_13 rfl ?_
    refine A_iload_n dX12_ahead_14 rfl ?_
    refine A_callVi (a_X12_isOfOffice (l := l) _ _ ) lc_X12_384 rfl rfl (by decide) (Nat.le_of_ble_eq_true rfl) rfl dX12_ahead_15 (fun q2 Mq2 hq2 => ?_)
    refine A_if_eq (tgt := 50) dX12_ahead_18 (by decide) (fun _ => ?_) (fun _ => ?_)
    · refine A_ldcw (v := (-100000 : Int32)) dX12_ahead_50 lk_X12_391 ?_
      exact A_iret rfl dX12_ahead_53
    · refine A_iload_n dX12_ahead_21 rfl ?_
      refine A_iload_n dX12_ahead_22 rfl ?_
      refine A_icmp_eq (tgt := 50) dX12_ahead_23 (by decide) (fun _ => ?_) (fun _ => ?_)
      · refine A_ldcw (v := (-100000 : Int32)) dX12_ahead_50 lk_X12_391 ?_
        exact A_iret rfl dX12_ahead_53
      · refine A_aload_n dX12_ahead_26 rfl ?_
        refine A_getr lf_X12_16 rfl rfl dX12_ahead_27 ?_
        refine A_iload_n dX12_ahead_30 rfl ?_
        refine A_iald rfl dX12_ahead_31 (fun _ => ?_)
        refine A_aload_n dX12_ahead_32 rfl ?_
        refine A_getr lf_X12_16 rfl rfl dX12_ahead_33 ?_
        refine A_iload_n dX12_ahead_36 rfl ?_
        refine A_iald rfl dX12_ahead_37 (fun _ => ?_)
        refine A_icmp_ne (tgt := 50) dX12_ahead_38 (by decide) (fun _ => ?_) (fun _ => ?_)
        · refine A_aload_n dX12_ahead_41 rfl ?_
          refine A_iload_n dX12_ahead_42 rfl ?_
          refine A_iload_n dX12_ahead_43 rfl ?_
          refine A_callVi (a_X12_aheadOf (l := l) fu _ _ _ ) lc_X12_399 rfl rfl (by decide) (Nat.le_of_ble_eq_true rfl) rfl dX12_ahead_44 (fun q3 Mq3 hq3 => ?_)
          refine A_goto (tgt := 53) dX12_ahead_47 (by decide) ?_
          exact A_iret rfl dX12_ahead_53
        · refine A_ldcw (v := (-100000 : Int32)) dX12_ahead_50 lk_X12_391 ?_
          exact A_iret rfl dX12_ahead_53
theorem a_X12_ahead {l : Launch} (fu : Nat)  (x1 : Int32) (x2 : Int32) (M : xM)  : AM SM l yX12_ahead cX12_ahead 3 (some .int) 80 ki [xr 0, xi x1, xi x2] M (F_X12_ahead fu x1 x2  M) :=
  AM.of (L0 := [some (xr 0), some (xi x1), some (xi x2)]) (w_X12_ahead (l := l) fu x1 x2  M ) (by decide +kernel) rfl (Nat.le_of_ble_eq_true rfl) ⟨rfl, rfl, rfl, trivial⟩
def F_X12_isFound_b2 (fu : Nat)  (x1 : Int32)  : Nat → Int32 → xM → Option (Int32 × xM)
  | 0, _, _ => none
  | n + 1, x2, M =>
    (if x1 < 0 ∨ 6 ≤ x1.toNatClampNeg then none else
    (if ((1 : Int32) <<< ((M 15 x1.toNatClampNeg) &&& 31)) ≤ x2 then
    some ((0 : Int32), M)
    else
    (F_X12_counts fu x1 x2 M).bind fun q1 =>
    (if q1.1 = 0 then
    F_X12_isFound_b2 fu x1 n (x2 + (1 : Int32)) q1.2
    else
    some ((1 : Int32), q1.2))))
set_option maxRecDepth 100000 in
set_option maxHeartbeats 4000000 in
theorem a_X12_isFound_b2 {l : Launch} (fu : Nat) (x1 : Int32)    : ∀ (n : Nat) (x2 : Int32) (M : xM), AW SM l RX12 cX12_isFound 3 (some .boolean) 78 ki (F_X12_isFound_b2 fu x1 n x2 M) 2 [some (xr 0), some (xi x1), some (xi x2)] [] M := by
  intro n
  induction n with
  | zero =>
    intro x2 M
    exact AW.none
  | succ n ih =>
    intro x2 M
    rw [F_X12_isFound_b2]
    refine A_iload_n dX12_isFound_2 rfl ?_
    refine A_iconst (v := (1 : Int32)) dX12_isFound_3 oI_1 ?_
    refine A_aload_n dX12_isFound_4 rfl ?_
    refine A_getr lf_X12_72 rfl rfl dX12_isFound_5 ?_
    refine A_iload_n dX12_isFound_8 rfl ?_
    refine A_iald rfl dX12_isFound_9 (fun _ => ?_)
    refine A_ishl dX12_isFound_10 ?_
    refine A_icmp_ge (tgt := 31) dX12_isFound_11 (by decide) (fun _ => ?_) (fun _ => ?_)
    · refine A_iconst (v := (0 : Int32)) dX12_isFound_31 oI_0 ?_
      exact A_zret' rfl (Or.inl rfl) dX12_isFound_32
    · refine A_aload_n dX12_isFound_14 rfl ?_
      refine A_iload_n dX12_isFound_15 rfl ?_
      refine A_iload_n dX12_isFound_16 rfl ?_
      refine A_callVi (a_X12_counts (l := l) fu _ _ _ ) lc_X12_378 rfl rfl (by decide) (Nat.le_of_ble_eq_true rfl) rfl dX12_isFound_17 (fun q1 Mq1 hq1 => ?_)
      refine A_if_eq (tgt := 25) dX12_isFound_20 (by decide) (fun _ => ?_) (fun _ => ?_)
      · refine A_iinc dX12_isFound_25 rfl oI_1 (Nat.le_of_ble_eq_true rfl) rfl ?_
        refine A_goto (tgt := 2) dX12_isFound_28 (by decide) ?_
        exact (ih _ _).sub ⟨rfl, rfl, rfl, trivial⟩
      · refine A_iconst (v := (1 : Int32)) dX12_isFound_23 oI_1 ?_
        exact A_zret' rfl (Or.inr rfl) dX12_isFound_24
def F_X12_isFound (fu : Nat)  (x1 : Int32)   (M : xM) : Option (Int32 × xM) :=
  F_X12_isFound_b2 fu x1 fu (0 : Int32) M
set_option maxRecDepth 100000 in
set_option maxHeartbeats 4000000 in
theorem w_X12_isFound {l : Launch} (fu : Nat) (x1 : Int32)     (M : xM)  : AW SM l RX12 cX12_isFound 3 (some .boolean) 78 ki (F_X12_isFound fu x1  M) 0 [some (xr 0), some (xi x1), none] [] M := by
  unfold F_X12_isFound
  refine A_iconst (v := (0 : Int32)) dX12_isFound_0 oI_0 ?_
  refine A_istore_n dX12_isFound_1 (Nat.le_of_ble_eq_true rfl) rfl ?_
  exact (a_X12_isFound_b2 (l := l) fu x1  fu _ _).sub ⟨rfl, rfl, rfl, trivial⟩
theorem a_X12_isFound {l : Launch} (fu : Nat)  (x1 : Int32) (M : xM)  : AM SM l yX12_isFound cX12_isFound 3 (some .boolean) 78 ki [xr 0, xi x1] M (F_X12_isFound fu x1  M) :=
  AM.of (L0 := [some (xr 0), some (xi x1), none]) (w_X12_isFound (l := l) fu x1  M ) (by decide +kernel) rfl (Nat.le_of_ble_eq_true rfl) ⟨rfl, rfl, trivial⟩
def F_X12_areFound_b2 (fu : Nat)    : Nat → Int32 → xM → Option (Int32 × xM)
  | 0, _, _ => none
  | n + 1, x1, M =>
    (if (M 0 32) ≤ x1 then
    some ((1 : Int32), M)
    else
    (F_X12_isFound fu x1 M).bind fun q1 =>
    (if q1.1 = 0 then
    some ((0 : Int32), q1.2)
    else
    F_X12_areFound_b2 fu n (x1 + (1 : Int32)) q1.2))
set_option maxRecDepth 100000 in
set_option maxHeartbeats 4000000 in
theorem a_X12_areFound_b2 {l : Launch} (fu : Nat)     : ∀ (n : Nat) (x1 : Int32) (M : xM), AW SM l RX12 cX12_areFound 2 (some .boolean) 79 ki (F_X12_areFound_b2 fu n x1 M) 2 [some (xr 0), some (xi x1)] [] M := by
  intro n
  induction n with
  | zero =>
    intro x1 M
    exact AW.none
  | succ n ih =>
    intro x1 M
    rw [F_X12_areFound_b2]
    refine A_iload_n dX12_areFound_2 rfl ?_
    refine A_aload_n dX12_areFound_3 rfl ?_
    refine A_geti lf_X12_331 rfl rfl dX12_areFound_4 ?_
    refine A_icmp_ge (tgt := 26) dX12_areFound_7 (by decide) (fun _ => ?_) (fun _ => ?_)
    · refine A_iconst (v := (1 : Int32)) dX12_areFound_26 oI_1 ?_
      exact A_zret' rfl (Or.inr rfl) dX12_areFound_27
    · refine A_aload_n dX12_areFound_10 rfl ?_
      refine A_iload_n dX12_areFound_11 rfl ?_
      refine A_callVi (a_X12_isFound (l := l) fu _ _ ) lc_X12_402 rfl rfl (by decide) (Nat.le_of_ble_eq_true rfl) rfl dX12_areFound_12 (fun q1 Mq1 hq1 => ?_)
      refine A_if_ne (tgt := 20) dX12_areFound_15 (by decide) (fun _ => ?_) (fun _ => ?_)
      · refine A_iconst (v := (0 : Int32)) dX12_areFound_18 oI_0 ?_
        exact A_zret' rfl (Or.inl rfl) dX12_areFound_19
      · refine A_iinc dX12_areFound_20 rfl oI_1 (Nat.le_of_ble_eq_true rfl) rfl ?_
        refine A_goto (tgt := 2) dX12_areFound_23 (by decide) ?_
        exact (ih _ _).sub ⟨rfl, rfl, trivial⟩
def F_X12_areFound (fu : Nat)     (M : xM) : Option (Int32 × xM) :=
  F_X12_areFound_b2 fu fu (0 : Int32) M
set_option maxRecDepth 100000 in
set_option maxHeartbeats 4000000 in
theorem w_X12_areFound {l : Launch} (fu : Nat)      (M : xM)  : AW SM l RX12 cX12_areFound 2 (some .boolean) 79 ki (F_X12_areFound fu  M) 0 [some (xr 0), none] [] M := by
  unfold F_X12_areFound
  refine A_iconst (v := (0 : Int32)) dX12_areFound_0 oI_0 ?_
  refine A_istore_n dX12_areFound_1 (Nat.le_of_ble_eq_true rfl) rfl ?_
  exact (a_X12_areFound_b2 (l := l) fu  fu _ _).sub ⟨rfl, rfl, trivial⟩
theorem a_X12_areFound {l : Launch} (fu : Nat)   (M : xM)  : AM SM l yX12_areFound cX12_areFound 2 (some .boolean) 79 ki [xr 0] M (F_X12_areFound fu   M) :=
  AM.of (L0 := [some (xr 0), none]) (w_X12_areFound (l := l) fu  M ) (by decide +kernel) rfl (Nat.le_of_ble_eq_true rfl) ⟨rfl, trivial⟩
def F_X12_isWinner_b42 (fu : Nat)  (x1 : Int32) (k2 : Int32 → xM → Option (Int32 × xM)) (x2 : Int32) (M : xM) : Option (Int32 × xM) :=
  k2 (x2 + (1 : Int32)) M
set_option maxRecDepth 100000 in
set_option maxHeartbeats 4000000 in
theorem a_X12_isWinner_b42 {l : Launch} (fu : Nat) (x1 : Int32)  {k2 : Int32 → xM → Option (Int32 × xM)} (hk2 : ∀ (b0 : Int32) (M : xM), AW SM l RX12 cX12_isWinner 3 (some .boolean) 80 ki (k2 b0 M) 2 [some (xr 0), some (xi x1), some (xi b0)] [] M) (x2 : Int32) (M : xM)  : AW SM l RX12 cX12_isWinner 3 (some .boolean) 80 ki (F_X12_isWinner_b42 fu x1 k2 x2 M) 42 [some (xr 0), some (xi x1), some (xi x2)] [] M := by
  unfold F_X12_isWinner_b42
  refine A_iinc dX12_isWinner_42 rfl oI_1 (Nat.le_of_ble_eq_true rfl) rfl ?_
  refine A_goto (tgt := 2) dX12_isWinner_45 (by decide) ?_
  exact (hk2 _ _).sub ⟨rfl, rfl, rfl, trivial⟩
def F_X12_isWinner_b2 (fu : Nat)  (x1 : Int32)  : Nat → Int32 → xM → Option (Int32 × xM)
  | 0, _, _ => none
  | n + 1, x2, M =>
    (if (M 0 1) ≤ x2 then
    some ((1 : Int32), M)
    else
    (if x2 = x1 then
    F_X12_isWinner_b42 fu x1 (F_X12_isWinner_b2 fu x1 n) x2 M
    else
    (if x2 < 0 ∨ 16 ≤ x2.toNatClampNeg then none else
    (if x1 < 0 ∨ 16 ≤ x1.toNatClampNeg then none else
    (if (M 3 x2.toNatClampNeg) = (M 3 x1.toNatClampNeg) then
    (F_X12_aheadOf fu x1 x2 M).bind fun q1 =>
    (if (1 : Int32) ≤ q1.1 then
    F_X12_isWinner_b42 fu x1 (F_X12_isWinner_b2 fu x1 n) x2 q1.2
    else
    some ((0 : Int32), q1.2))
    else
    F_X12_isWinner_b42 fu x1 (F_X12_isWinner_b2 fu x1 n) x2 M)))))
set_option maxRecDepth 100000 in
set_option maxHeartbeats 4000000 in
theorem a_X12_isWinner_b2 {l : Launch} (fu : Nat) (x1 : Int32)    : ∀ (n : Nat) (x2 : Int32) (M : xM), AW SM l RX12 cX12_isWinner 3 (some .boolean) 80 ki (F_X12_isWinner_b2 fu x1 n x2 M) 2 [some (xr 0), some (xi x1), some (xi x2)] [] M := by
  intro n
  induction n with
  | zero =>
    intro x2 M
    exact AW.none
  | succ n ih =>
    intro x2 M
    rw [F_X12_isWinner_b2]
    refine A_iload_n dX12_isWinner_2 rfl ?_
    refine A_aload_n dX12_isWinner_3 rfl ?_
    refine A_geti lf_X12_177 rfl rfl dX12_isWinner_4 ?_
    refine A_icmp_ge (tgt := 48) dX12_isWinner_7 (by decide) (fun _ => ?_) (fun _ => ?_)
    · refine A_iconst (v := (1 : Int32)) dX12_isWinner_48 oI_1 ?_
      exact A_zret' rfl (Or.inr rfl) dX12_isWinner_49
    · refine A_iload_n dX12_isWinner_10 rfl ?_
      refine A_iload_n dX12_isWinner_11 rfl ?_
      refine A_icmp_eq (tgt := 42) dX12_isWinner_12 (by decide) (fun _ => ?_) (fun _ => ?_)
      · exact (a_X12_isWinner_b42 (l := l) fu x1 ih _ _ ).sub ⟨rfl, rfl, rfl, trivial⟩
      · refine A_aload_n dX12_isWinner_15 rfl ?_
        refine A_getr lf_X12_16 rfl rfl dX12_isWinner_16 ?_
        refine A_iload_n dX12_isWinner_19 rfl ?_
        refine A_iald rfl dX12_isWinner_20 (fun _ => ?_)
        refine A_aload_n dX12_isWinner_21 rfl ?_
        refine A_getr lf_X12_16 rfl rfl dX12_isWinner_22 ?_
        refine A_iload_n dX12_isWinner_25 rfl ?_
        refine A_iald rfl dX12_isWinner_26 (fun _ => ?_)
        refine A_icmp_ne (tgt := 42) dX12_isWinner_27 (by decide) (fun _ => ?_) (fun _ => ?_)
        · refine A_aload_n dX12_isWinner_30 rfl ?_
          refine A_iload_n dX12_isWinner_31 rfl ?_
          refine A_iload_n dX12_isWinner_32 rfl ?_
          refine A_callVi (a_X12_aheadOf (l := l) fu _ _ _ ) lc_X12_399 rfl rfl (by decide) (Nat.le_of_ble_eq_true rfl) rfl dX12_isWinner_33 (fun q1 Mq1 hq1 => ?_)
          refine A_iconst (v := (1 : Int32)) dX12_isWinner_36 oI_1 ?_
          refine A_icmp_ge (tgt := 42) dX12_isWinner_37 (by decide) (fun _ => ?_) (fun _ => ?_)
          · exact (a_X12_isWinner_b42 (l := l) fu x1 ih _ _ ).sub ⟨rfl, rfl, rfl, trivial⟩
          · refine A_iconst (v := (0 : Int32)) dX12_isWinner_40 oI_0 ?_
            exact A_zret' rfl (Or.inl rfl) dX12_isWinner_41
        · exact (a_X12_isWinner_b42 (l := l) fu x1 ih _ _ ).sub ⟨rfl, rfl, rfl, trivial⟩
def F_X12_isWinner (fu : Nat)  (x1 : Int32)   (M : xM) : Option (Int32 × xM) :=
  F_X12_isWinner_b2 fu x1 fu (0 : Int32) M
set_option maxRecDepth 100000 in
set_option maxHeartbeats 4000000 in
theorem w_X12_isWinner {l : Launch} (fu : Nat) (x1 : Int32)     (M : xM)  : AW SM l RX12 cX12_isWinner 3 (some .boolean) 80 ki (F_X12_isWinner fu x1  M) 0 [some (xr 0), some (xi x1), none] [] M := by
  unfold F_X12_isWinner
  refine A_iconst (v := (0 : Int32)) dX12_isWinner_0 oI_0 ?_
  refine A_istore_n dX12_isWinner_1 (Nat.le_of_ble_eq_true rfl) rfl ?_
  exact (a_X12_isWinner_b2 (l := l) fu x1  fu _ _).sub ⟨rfl, rfl, rfl, trivial⟩
theorem a_X12_isWinner {l : Launch} (fu : Nat)  (x1 : Int32) (M : xM)  : AM SM l yX12_isWinner cX12_isWinner 3 (some .boolean) 80 ki [xr 0, xi x1] M (F_X12_isWinner fu x1  M) :=
  AM.of (L0 := [some (xr 0), some (xi x1), none]) (w_X12_isWinner (l := l) fu x1  M ) (by decide +kernel) rfl (Nat.le_of_ble_eq_true rfl) ⟨rfl, rfl, trivial⟩
def F_X12_wins_b58 (fu : Nat)  (x1 : Int32) (k30 : Int32 → xM → Option (Int32 × xM)) (x2 : Int32) (M : xM) : Option (Int32 × xM) :=
  k30 (x2 + (1 : Int32)) M
set_option maxRecDepth 100000 in
set_option maxHeartbeats 4000000 in
theorem a_X12_wins_b58 {l : Launch} (fu : Nat) (x1 : Int32)  {k30 : Int32 → xM → Option (Int32 × xM)} (hk30 : ∀ (b0 : Int32) (M : xM), AW SM l RX12 cX12_wins 3 (some .int) 81 ki (k30 b0 M) 30 [some (xr 0), some (xi x1), some (xi b0)] [] M) (x2 : Int32) (M : xM)  : AW SM l RX12 cX12_wins 3 (some .int) 81 ki (F_X12_wins_b58 fu x1 k30 x2 M) 58 [some (xr 0), some (xi x1), some (xi x2)] [] M := by
  unfold F_X12_wins_b58
  refine A_iinc dX12_wins_58 rfl oI_1 (Nat.le_of_ble_eq_true rfl) rfl ?_
  refine A_goto (tgt := 30) dX12_wins_61 (by decide) ?_
  exact (hk30 _ _).sub ⟨rfl, rfl, rfl, trivial⟩
def F_X12_wins_b30 (fu : Nat)  (x1 : Int32)  : Nat → Int32 → xM → Option (Int32 × xM)
  | 0, _, _ => none
  | n + 1, x2, M =>
    (if (M 0 1) ≤ x2 then
    some ((-1 : Int32), M)
    else
    (if x2 < 0 ∨ 16 ≤ x2.toNatClampNeg then none else
    (if (M 3 x2.toNatClampNeg) = x1 then
    (F_X12_isWinner fu x2 M).bind fun q1 =>
    (if q1.1 = 0 then
    F_X12_wins_b58 fu x1 (F_X12_wins_b30 fu x1 n) x2 q1.2
    else
    some (x2, q1.2))
    else
    F_X12_wins_b58 fu x1 (F_X12_wins_b30 fu x1 n) x2 M)))
set_option maxRecDepth 100000 in
set_option maxHeartbeats 4000000 in
theorem a_X12_wins_b30 {l : Launch} (fu : Nat) (x1 : Int32)    : ∀ (n : Nat) (x2 : Int32) (M : xM), AW SM l RX12 cX12_wins 3 (some .int) 81 ki (F_X12_wins_b30 fu x1 n x2 M) 30 [some (xr 0), some (xi x1), some (xi x2)] [] M := by
  intro n
  induction n with
  | zero =>
    intro x2 M
    exact AW.none
  | succ n ih =>
    intro x2 M
    rw [F_X12_wins_b30]
    refine A_iload_n dX12_wins_30 rfl ?_
    refine A_aload_n dX12_wins_31 rfl ?_
    refine A_geti lf_X12_177 rfl rfl dX12_wins_32 ?_
    refine A_icmp_ge (tgt := 64) dX12_wins_35 (by decide) (fun _ => ?_) (fun _ => ?_)
    · refine A_iconst (v := (-1 : Int32)) dX12_wins_64 oI_m1 ?_
      exact A_iret rfl dX12_wins_65
    · refine A_aload_n dX12_wins_38 rfl ?_
      refine A_getr lf_X12_16 rfl rfl dX12_wins_39 ?_
      refine A_iload_n dX12_wins_42 rfl ?_
      refine A_iald rfl dX12_wins_43 (fun _ => ?_)
      refine A_iload_n dX12_wins_44 rfl ?_
      refine A_icmp_ne (tgt := 58) dX12_wins_45 (by decide) (fun _ => ?_) (fun _ => ?_)
      · refine A_aload_n dX12_wins_48 rfl ?_
        refine A_iload_n dX12_wins_49 rfl ?_
        refine A_callVi (a_X12_isWinner (l := l) fu _ _ ) lc_X12_408 rfl rfl (by decide) (Nat.le_of_ble_eq_true rfl) rfl dX12_wins_50 (fun q1 Mq1 hq1 => ?_)
        refine A_if_eq (tgt := 58) dX12_wins_53 (by decide) (fun _ => ?_) (fun _ => ?_)
        · exact (a_X12_wins_b58 (l := l) fu x1 ih _ _ ).sub ⟨rfl, rfl, rfl, trivial⟩
        · refine A_iload_n dX12_wins_56 rfl ?_
          exact A_iret rfl dX12_wins_57
      · exact (a_X12_wins_b58 (l := l) fu x1 ih _ _ ).sub ⟨rfl, rfl, rfl, trivial⟩
def F_X12_wins (fu : Nat)  (x1 : Int32)   (M : xM) : Option (Int32 × xM) :=
  (if (P_X12_isIn x1 (0 : Int32) (((xset M 0 0 (0 : Int32)) 0 7) - (1 : Int32)) (xset M 0 0 (0 : Int32))) = 0 then
  some ((-1 : Int32), (xset M 0 0 (0 : Int32)))
  else
  (F_X12_areFound fu (xset M 0 0 (0 : Int32))).bind fun q1 =>
  (if q1.1 = 0 then
  some ((-1 : Int32), q1.2)
  else
  F_X12_wins_b30 fu x1 fu (0 : Int32) q1.2))
set_option maxRecDepth 100000 in
set_option maxHeartbeats 4000000 in
theorem w_X12_wins {l : Launch} (fu : Nat) (x1 : Int32)     (M : xM)  : AW SM l RX12 cX12_wins 3 (some .int) 81 ki (F_X12_wins fu x1  M) 0 [some (xr 0), some (xi x1), none] [] M := by
  unfold F_X12_wins
  refine A_aload_n dX12_wins_0 rfl ?_
  refine A_iconst (v := (0 : Int32)) dX12_wins_1 oI_0 ?_
  refine A_puti lf_X12_180 rfl rfl dX12_wins_2 ?_
  refine A_iload_n dX12_wins_5 rfl ?_
  refine A_iconst (v := (0 : Int32)) dX12_wins_6 oI_0 ?_
  refine A_aload_n dX12_wins_7 rfl ?_
  refine A_geti lf_X12_189 rfl rfl dX12_wins_8 ?_
  refine A_iconst (v := (1 : Int32)) dX12_wins_11 oI_1 ?_
  refine A_isub dX12_wins_12 ?_
  refine A_callSp (a_X12_isIn (l := l) _ _ _ _ ) lc_X12_196 rfl (by decide) (Nat.le_of_ble_eq_true rfl) rfl dX12_wins_13 ?_
  refine A_if_eq (tgt := 26) dX12_wins_16 (by decide) (fun _ => ?_) (fun _ => ?_)
  · refine A_iconst (v := (-1 : Int32)) dX12_wins_26 oI_m1 ?_
    exact A_iret rfl dX12_wins_27
  · refine A_aload_n dX12_wins_19 rfl ?_
    refine A_callVi (a_X12_areFound (l := l) fu  _ ) lc_X12_405 rfl rfl (by decide) (Nat.le_of_ble_eq_true rfl) rfl dX12_wins_20 (fun q1 Mq1 hq1 => ?_)
    refine A_if_ne (tgt := 28) dX12_wins_23 (by decide) (fun _ => ?_) (fun _ => ?_)
    · refine A_iconst (v := (-1 : Int32)) dX12_wins_26 oI_m1 ?_
      exact A_iret rfl dX12_wins_27
    · refine A_iconst (v := (0 : Int32)) dX12_wins_28 oI_0 ?_
      refine A_istore_n dX12_wins_29 (Nat.le_of_ble_eq_true rfl) rfl ?_
      exact (a_X12_wins_b30 (l := l) fu x1  fu _ _).sub ⟨rfl, rfl, rfl, trivial⟩
theorem a_X12_wins {l : Launch} (fu : Nat)  (x1 : Int32) (M : xM)  : AM SM l yX12_wins cX12_wins 3 (some .int) 81 ki [xr 0, xi x1] M (F_X12_wins fu x1  M) :=
  AM.of (L0 := [some (xr 0), some (xi x1), none]) (w_X12_wins (l := l) fu x1  M ) (by decide +kernel) rfl (Nat.le_of_ble_eq_true rfl) ⟨rfl, rfl, trivial⟩
def F_X12_cost  (x1 : Int32) (x2 : Int32)   (M : xM) : Option (Int32 × xM) :=
  (if (P_X12_isMachine x1 (xset M 0 0 (0 : Int32))) = 0 then
  some ((0 : Int32), (xset M 0 0 (0 : Int32)))
  else
  (if (P_X12_isIn x2 (1 : Int32) (50 : Int32) (xset M 0 0 (0 : Int32))) = 0 then
  some ((0 : Int32), (xset M 0 0 (0 : Int32)))
  else
  (if x1 < 0 ∨ 6 ≤ x1.toNatClampNeg then none else
  some ((1 : Int32), (xset (xset M 0 0 (0 : Int32)) 14 x1.toNatClampNeg x2)))))
set_option maxRecDepth 100000 in
set_option maxHeartbeats 4000000 in
theorem w_X12_cost {l : Launch} (x1 : Int32) (x2 : Int32)     (M : xM)  : AW SM l RX12 cX12_cost 3 (some .boolean) 1 ki (F_X12_cost x1 x2  M) 0 [some (xr 0), some (xi x1), some (xi x2)] [] M := by
  unfold F_X12_cost
  refine A_aload_n dX12_cost_0 rfl ?_
  refine A_iconst (v := (0 : Int32)) dX12_cost_1 oI_0 ?_
  refine A_puti lf_X12_180 rfl rfl dX12_cost_2 ?_
  refine A_aload_n dX12_cost_5 rfl ?_
  refine A_iload_n dX12_cost_6 rfl ?_
  refine A_callVp (a_X12_isMachine (l := l) _ _ ) lc_X12_337 rfl rfl (by decide) (Nat.le_of_ble_eq_true rfl) rfl dX12_cost_7 ?_
  refine A_if_eq (tgt := 23) dX12_cost_10 (by decide) (fun _ => ?_) (fun _ => ?_)
  · refine A_iconst (v := (0 : Int32)) dX12_cost_23 oI_0 ?_
    exact A_zret' rfl (Or.inl rfl) dX12_cost_24
  · refine A_iload_n dX12_cost_13 rfl ?_
    refine A_iconst (v := (1 : Int32)) dX12_cost_14 oI_1 ?_
    refine A_bipush (v := (50 : Int32)) dX12_cost_15 oB_50 ?_
    refine A_callSp (a_X12_isIn (l := l) _ _ _ _ ) lc_X12_196 rfl (by decide) (Nat.le_of_ble_eq_true rfl) rfl dX12_cost_17 ?_
    refine A_if_ne (tgt := 25) dX12_cost_20 (by decide) (fun _ => ?_) (fun _ => ?_)
    · refine A_iconst (v := (0 : Int32)) dX12_cost_23 oI_0 ?_
      exact A_zret' rfl (Or.inl rfl) dX12_cost_24
    · refine A_aload_n dX12_cost_25 rfl ?_
      refine A_getr lf_X12_69 rfl rfl dX12_cost_26 ?_
      refine A_iload_n dX12_cost_29 rfl ?_
      refine A_iload_n dX12_cost_30 rfl ?_
      refine A_iast rfl dX12_cost_31 (fun _ => ?_)
      refine A_iconst (v := (1 : Int32)) dX12_cost_32 oI_1 ?_
      exact A_zret' rfl (Or.inr rfl) dX12_cost_33
theorem a_X12_cost {l : Launch}  (x1 : Int32) (x2 : Int32) (M : xM)  : AM SM l yX12_cost cX12_cost 3 (some .boolean) 1 ki [xr 0, xi x1, xi x2] M (F_X12_cost  x1 x2  M) :=
  AM.of (L0 := [some (xr 0), some (xi x1), some (xi x2)]) (w_X12_cost (l := l) x1 x2  M ) (by decide +kernel) rfl (Nat.le_of_ble_eq_true rfl) ⟨rfl, rfl, rfl, trivial⟩
def F_X12_layGains_b95 (fu : Nat)  (x1 : Int32) (k2 : Int32 → xM → Option (xM)) (k19 : Int32 → Int32 → Int32 → xM → Option (xM)) (x2 : Int32) (x3 : Int32) (x4 : Int32) (M : xM) : Option (xM) :=
  k19 x2 x3 (x4 + (1 : Int32)) M
set_option maxRecDepth 100000 in
set_option maxHeartbeats 4000000 in
theorem a_X12_layGains_b95 {l : Launch} (fu : Nat) (x1 : Int32)  {k2 : Int32 → xM → Option (xM)} {k19 : Int32 → Int32 → Int32 → xM → Option (xM)} (hk2 : ∀ (b0 : Int32) (M : xM), AW SM l RX12 cX12_layGains 5 none 79 kv (k2 b0 M) 2 [some (xr 0), some (xi x1), some (xi b0), none, none] [] M) (hk19 : ∀ (b0 : Int32) (b1 : Int32) (b2 : Int32) (M : xM), AW SM l RX12 cX12_layGains 5 none 79 kv (k19 b0 b1 b2 M) 19 [some (xr 0), some (xi x1), some (xi b0), some (xi b1), some (xi b2)] [] M) (x2 : Int32) (x3 : Int32) (x4 : Int32) (M : xM)  : AW SM l RX12 cX12_layGains 5 none 79 kv (F_X12_layGains_b95 fu x1 k2 k19 x2 x3 x4 M) 95 [some (xr 0), some (xi x1), some (xi x2), some (xi x3), some (xi x4)] [] M := by
  unfold F_X12_layGains_b95
  refine A_iinc dX12_layGains_95 rfl oI_1 (Nat.le_of_ble_eq_true rfl) rfl ?_
  refine A_goto (tgt := 19) dX12_layGains_98 (by decide) ?_
  exact (hk19 _ _ _ _).sub ⟨rfl, rfl, rfl, rfl, rfl, trivial⟩
def F_X12_layGains_b19 (fu : Nat)  (x1 : Int32) (k2 : Int32 → xM → Option (xM)) : Nat → Int32 → Int32 → Int32 → xM → Option (xM)
  | 0, _, _, _, _ => none
  | n + 1, x2, x3, x4, M =>
    (if (M 0 1) ≤ x4 then
    k2 (x2 + (1 : Int32)) M
    else
    (if x4 = x1 then
    F_X12_layGains_b95 fu x1 k2 (F_X12_layGains_b19 fu x1 k2 n) x2 x3 x4 M
    else
    (if x4 < 0 ∨ 16 ≤ x4.toNatClampNeg then none else
    (if x1 < 0 ∨ 16 ≤ x1.toNatClampNeg then none else
    (if (M 3 x4.toNatClampNeg) = (M 3 x1.toNatClampNeg) then
    (F_X12_aheadIn fu x2 x1 x4 (-1 : Int32) M).bind fun q1 =>
    (if (((16 : Int32) * x2) + x4) < 0 ∨ 96 ≤ (((16 : Int32) * x2) + x4).toNatClampNeg then none else
    (F_X12_aheadIn fu x2 x1 x4 x3 (xset q1.2 24 (((16 : Int32) * x2) + x4).toNatClampNeg q1.1)).bind fun q2 =>
    (if (((16 : Int32) * x2) + x4) < 0 ∨ 96 ≤ (((16 : Int32) * x2) + x4).toNatClampNeg then none else
    F_X12_layGains_b95 fu x1 k2 (F_X12_layGains_b19 fu x1 k2 n) x2 x3 x4 (xset q2.2 25 (((16 : Int32) * x2) + x4).toNatClampNeg q2.1)))
    else
    F_X12_layGains_b95 fu x1 k2 (F_X12_layGains_b19 fu x1 k2 n) x2 x3 x4 M)))))
set_option maxRecDepth 100000 in
set_option maxHeartbeats 4000000 in
theorem a_X12_layGains_b19 {l : Launch} (fu : Nat) (x1 : Int32)  {k2 : Int32 → xM → Option (xM)} (hk2 : ∀ (b0 : Int32) (M : xM), AW SM l RX12 cX12_layGains 5 none 79 kv (k2 b0 M) 2 [some (xr 0), some (xi x1), some (xi b0), none, none] [] M) : ∀ (n : Nat) (x2 : Int32) (x3 : Int32) (x4 : Int32) (M : xM), AW SM l RX12 cX12_layGains 5 none 79 kv (F_X12_layGains_b19 fu x1 k2 n x2 x3 x4 M) 19 [some (xr 0), some (xi x1), some (xi x2), some (xi x3), some (xi x4)] [] M := by
  intro n
  induction n with
  | zero =>
    intro x2 x3 x4 M
    exact AW.none
  | succ n ih =>
    intro x2 x3 x4 M
    rw [F_X12_layGains_b19]
    refine A_iload dX12_layGains_19 rfl ?_
    refine A_aload_n dX12_layGains_21 rfl ?_
    refine A_geti lf_X12_177 rfl rfl dX12_layGains_22 ?_
    refine A_icmp_ge (tgt := 101) dX12_layGains_25 (by decide) (fun _ => ?_) (fun _ => ?_)
    · refine A_iinc dX12_layGains_101 rfl oI_1 (Nat.le_of_ble_eq_true rfl) rfl ?_
      refine A_goto (tgt := 2) dX12_layGains_104 (by decide) ?_
      exact (hk2 _ _).sub ⟨rfl, rfl, rfl, trivial⟩
    · refine A_iload dX12_layGains_28 rfl ?_
      refine A_iload_n dX12_layGains_30 rfl ?_
      refine A_icmp_eq (tgt := 95) dX12_layGains_31 (by decide) (fun _ => ?_) (fun _ => ?_)
      · exact (a_X12_layGains_b95 (l := l) fu x1 hk2 ih _ _ _ _ ).sub ⟨rfl, rfl, rfl, rfl, rfl, trivial⟩
      · refine A_aload_n dX12_layGains_34 rfl ?_
        refine A_getr lf_X12_16 rfl rfl dX12_layGains_35 ?_
        refine A_iload dX12_layGains_38 rfl ?_
        refine A_iald rfl dX12_layGains_40 (fun _ => ?_)
        refine A_aload_n dX12_layGains_41 rfl ?_
        refine A_getr lf_X12_16 rfl rfl dX12_layGains_42 ?_
        refine A_iload_n dX12_layGains_45 rfl ?_
        refine A_iald rfl dX12_layGains_46 (fun _ => ?_)
        refine A_icmp_eq (tgt := 53) dX12_layGains_47 (by decide) (fun _ => ?_) (fun _ => ?_)
        · refine A_aload_n dX12_layGains_53 rfl ?_
          refine A_getr lf_X12_99 rfl rfl dX12_layGains_54 ?_
          refine A_bipush (v := (16 : Int32)) dX12_layGains_57 oB_16 ?_
          refine A_iload_n dX12_layGains_59 rfl ?_
          refine A_imul dX12_layGains_60 ?_
          refine A_iload dX12_layGains_61 rfl ?_
          refine A_iadd dX12_layGains_63 ?_
          refine A_aload_n dX12_layGains_64 rfl ?_
          refine A_iload_n dX12_layGains_65 rfl ?_
          refine A_iload_n dX12_layGains_66 rfl ?_
          refine A_iload dX12_layGains_67 rfl ?_
          refine A_iconst (v := (-1 : Int32)) dX12_layGains_69 oI_m1 ?_
          refine A_callVi (a_X12_aheadIn (l := l) fu _ _ _ _ _ ) lc_X12_395 rfl rfl (by decide) (Nat.le_of_ble_eq_true rfl) rfl dX12_layGains_70 (fun q1 Mq1 hq1 => ?_)
          refine A_iast rfl dX12_layGains_73 (fun _ => ?_)
          refine A_aload_n dX12_layGains_74 rfl ?_
          refine A_getr lf_X12_102 rfl rfl dX12_layGains_75 ?_
          refine A_bipush (v := (16 : Int32)) dX12_layGains_78 oB_16 ?_
          refine A_iload_n dX12_layGains_80 rfl ?_
          refine A_imul dX12_layGains_81 ?_
          refine A_iload dX12_layGains_82 rfl ?_
          refine A_iadd dX12_layGains_84 ?_
          refine A_aload_n dX12_layGains_85 rfl ?_
          refine A_iload_n dX12_layGains_86 rfl ?_
          refine A_iload_n dX12_layGains_87 rfl ?_
          refine A_iload dX12_layGains_88 rfl ?_
          refine A_iload_n dX12_layGains_90 rfl ?_
          refine A_callVi (a_X12_aheadIn (l := l) fu _ _ _ _ _ ) lc_X12_395 rfl rfl (by decide) (Nat.le_of_ble_eq_true rfl) rfl dX12_layGains_91 (fun q2 Mq2 hq2 => ?_)
          refine A_iast rfl dX12_layGains_94 (fun _ => ?_)
          exact (a_X12_layGains_b95 (l := l) fu x1 hk2 ih _ _ _ _ ).sub ⟨rfl, rfl, rfl, rfl, rfl, trivial⟩
        · refine A_goto (tgt := 95) dX12_layGains_50 (by decide) ?_
          exact (a_X12_layGains_b95 (l := l) fu x1 hk2 ih _ _ _ _ ).sub ⟨rfl, rfl, rfl, rfl, rfl, trivial⟩
def F_X12_layGains_b2 (fu : Nat)  (x1 : Int32)  : Nat → Int32 → xM → Option (xM)
  | 0, _, _ => none
  | n + 1, x2, M =>
    (if (M 0 32) ≤ x2 then
    some M
    else
    (F_X12_fewestOf fu x2 M).bind fun q1 =>
    F_X12_layGains_b19 fu x1 (F_X12_layGains_b2 fu x1 n) fu x2 q1.1 (0 : Int32) q1.2)
set_option maxRecDepth 100000 in
set_option maxHeartbeats 4000000 in
theorem a_X12_layGains_b2 {l : Launch} (fu : Nat) (x1 : Int32)    : ∀ (n : Nat) (x2 : Int32) (M : xM), AW SM l RX12 cX12_layGains 5 none 79 kv (F_X12_layGains_b2 fu x1 n x2 M) 2 [some (xr 0), some (xi x1), some (xi x2), none, none] [] M := by
  intro n
  induction n with
  | zero =>
    intro x2 M
    exact AW.none
  | succ n ih =>
    intro x2 M
    rw [F_X12_layGains_b2]
    refine A_iload_n dX12_layGains_2 rfl ?_
    refine A_aload_n dX12_layGains_3 rfl ?_
    refine A_geti lf_X12_331 rfl rfl dX12_layGains_4 ?_
    refine A_icmp_ge (tgt := 107) dX12_layGains_7 (by decide) (fun _ => ?_) (fun _ => ?_)
    · exact A_vret rfl dX12_layGains_107
    · refine A_aload_n dX12_layGains_10 rfl ?_
      refine A_iload_n dX12_layGains_11 rfl ?_
      refine A_callVi (a_X12_fewestOf (l := l) fu _ _ ) lc_X12_375 rfl rfl (by decide) (Nat.le_of_ble_eq_true rfl) rfl dX12_layGains_12 (fun q1 Mq1 hq1 => ?_)
      refine A_istore_n dX12_layGains_15 (Nat.le_of_ble_eq_true rfl) rfl ?_
      refine A_iconst (v := (0 : Int32)) dX12_layGains_16 oI_0 ?_
      refine A_istore dX12_layGains_17 (Nat.le_of_ble_eq_true rfl) rfl ?_
      exact (a_X12_layGains_b19 (l := l) fu x1 ih fu _ _ _ _).sub ⟨rfl, rfl, rfl, rfl, rfl, trivial⟩
def F_X12_layGains (fu : Nat)  (x1 : Int32)   (M : xM) : Option (xM) :=
  F_X12_layGains_b2 fu x1 fu (0 : Int32) M
set_option maxRecDepth 100000 in
set_option maxHeartbeats 4000000 in
theorem w_X12_layGains {l : Launch} (fu : Nat) (x1 : Int32)     (M : xM)  : AW SM l RX12 cX12_layGains 5 none 79 kv (F_X12_layGains fu x1  M) 0 [some (xr 0), some (xi x1), none, none, none] [] M := by
  unfold F_X12_layGains
  refine A_iconst (v := (0 : Int32)) dX12_layGains_0 oI_0 ?_
  refine A_istore_n dX12_layGains_1 (Nat.le_of_ble_eq_true rfl) rfl ?_
  exact (a_X12_layGains_b2 (l := l) fu x1  fu _ _).sub ⟨rfl, rfl, rfl, trivial⟩
theorem a_X12_layGains {l : Launch} (fu : Nat)  (x1 : Int32) (M : xM)  : AM SM l yX12_layGains cX12_layGains 5 none 79 kv [xr 0, xi x1] M (F_X12_layGains fu x1  M) :=
  AM.of (L0 := [some (xr 0), some (xi x1), none, none, none]) (w_X12_layGains (l := l) fu x1  M ) (by decide +kernel) rfl (Nat.le_of_ble_eq_true rfl) ⟨rfl, rfl, trivial⟩
def F_X12_winsWith_b103 (fu : Nat)  (x1 : Int32) (x2 : Int32) (k2 : Int32 → xM → Option (Int32 × xM)) (x3 : Int32) (M : xM) : Option (Int32 × xM) :=
  k2 (x3 + (1 : Int32)) M
set_option maxRecDepth 100000 in
set_option maxHeartbeats 4000000 in
theorem a_X12_winsWith_b103 {l : Launch} (fu : Nat) (x1 : Int32) (x2 : Int32)  {k2 : Int32 → xM → Option (Int32 × xM)} (hk2 : ∀ (b0 : Int32) (M : xM), AW SM l RX12 cX12_winsWith 6 (some .boolean) 1 ki (k2 b0 M) 2 [some (xr 0), some (xi x1), some (xi x2), some (xi b0), none, none] [] M) (x3 : Int32) (M : xM)  : AW SM l RX12 cX12_winsWith 6 (some .boolean) 1 ki (F_X12_winsWith_b103 fu x1 x2 k2 x3 M) 103 [some (xr 0), some (xi x1), some (xi x2), some (xi x3), none, none] [] M := by
  unfold F_X12_winsWith_b103
  refine A_iinc dX12_winsWith_103 rfl oI_1 (Nat.le_of_ble_eq_true rfl) rfl ?_
  refine A_goto (tgt := 2) dX12_winsWith_106 (by decide) ?_
  exact (hk2 _ _).sub ⟨rfl, rfl, rfl, rfl, trivial⟩
def F_X12_winsWith_b86 (fu : Nat)  (x1 : Int32) (x2 : Int32) (k2 : Int32 → xM → Option (Int32 × xM)) (k39 : Int32 → Int32 → Int32 → xM → Option (Int32 × xM)) (x3 : Int32) (x5 : Int32) (s0 : Int32) (s1 : Int32) (M : xM) : Option (Int32 × xM) :=
  k39 x3 (s1 + s0) (x5 + (1 : Int32)) M
set_option maxRecDepth 100000 in
set_option maxHeartbeats 4000000 in
theorem a_X12_winsWith_b86 {l : Launch} (fu : Nat) (x1 : Int32) (x2 : Int32)  {k2 : Int32 → xM → Option (Int32 × xM)} {k39 : Int32 → Int32 → Int32 → xM → Option (Int32 × xM)} (hk2 : ∀ (b0 : Int32) (M : xM), AW SM l RX12 cX12_winsWith 6 (some .boolean) 1 ki (k2 b0 M) 2 [some (xr 0), some (xi x1), some (xi x2), some (xi b0), none, none] [] M) (hk39 : ∀ (b0 : Int32) (b1 : Int32) (b2 : Int32) (M : xM), AW SM l RX12 cX12_winsWith 6 (some .boolean) 1 ki (k39 b0 b1 b2 M) 39 [some (xr 0), some (xi x1), some (xi x2), some (xi b0), some (xi b1), some (xi b2)] [] M) (x3 : Int32) (x5 : Int32) (s0 : Int32) (s1 : Int32) (M : xM)  : AW SM l RX12 cX12_winsWith 6 (some .boolean) 1 ki (F_X12_winsWith_b86 fu x1 x2 k2 k39 x3 x5 s0 s1 M) 86 [some (xr 0), some (xi x1), some (xi x2), some (xi x3), none, some (xi x5)] [xi s0, xi s1] M := by
  unfold F_X12_winsWith_b86
  refine A_iadd dX12_winsWith_86 ?_
  refine A_istore dX12_winsWith_87 (Nat.le_of_ble_eq_true rfl) rfl ?_
  refine A_iinc dX12_winsWith_89 rfl oI_1 (Nat.le_of_ble_eq_true rfl) rfl ?_
  refine A_goto (tgt := 39) dX12_winsWith_92 (by decide) ?_
  exact (hk39 _ _ _ _).sub ⟨rfl, rfl, rfl, rfl, rfl, rfl, trivial⟩
def F_X12_winsWith_b39 (fu : Nat)  (x1 : Int32) (x2 : Int32) (k2 : Int32 → xM → Option (Int32 × xM)) : Nat → Int32 → Int32 → Int32 → xM → Option (Int32 × xM)
  | 0, _, _, _, _ => none
  | n + 1, x3, x4, x5, M =>
    (if (M 0 32) ≤ x5 then
    (if (1 : Int32) ≤ x4 then
    F_X12_winsWith_b103 fu x1 x2 k2 x3 M
    else
    some ((0 : Int32), M))
    else
    (if (P_X12_has x2 x5 M) = 0 then
    (if (((16 : Int32) * x5) + x3) < 0 ∨ 96 ≤ (((16 : Int32) * x5) + x3).toNatClampNeg then none else
    F_X12_winsWith_b86 fu x1 x2 k2 (F_X12_winsWith_b39 fu x1 x2 k2 n) x3 x5 (M 24 (((16 : Int32) * x5) + x3).toNatClampNeg) x4 M)
    else
    (if (((16 : Int32) * x5) + x3) < 0 ∨ 96 ≤ (((16 : Int32) * x5) + x3).toNatClampNeg then none else
    F_X12_winsWith_b86 fu x1 x2 k2 (F_X12_winsWith_b39 fu x1 x2 k2 n) x3 x5 (M 25 (((16 : Int32) * x5) + x3).toNatClampNeg) x4 M)))
set_option maxRecDepth 100000 in
set_option maxHeartbeats 4000000 in
theorem a_X12_winsWith_b39 {l : Launch} (fu : Nat) (x1 : Int32) (x2 : Int32)  {k2 : Int32 → xM → Option (Int32 × xM)} (hk2 : ∀ (b0 : Int32) (M : xM), AW SM l RX12 cX12_winsWith 6 (some .boolean) 1 ki (k2 b0 M) 2 [some (xr 0), some (xi x1), some (xi x2), some (xi b0), none, none] [] M) : ∀ (n : Nat) (x3 : Int32) (x4 : Int32) (x5 : Int32) (M : xM), AW SM l RX12 cX12_winsWith 6 (some .boolean) 1 ki (F_X12_winsWith_b39 fu x1 x2 k2 n x3 x4 x5 M) 39 [some (xr 0), some (xi x1), some (xi x2), some (xi x3), some (xi x4), some (xi x5)] [] M := by
  intro n
  induction n with
  | zero =>
    intro x3 x4 x5 M
    exact AW.none
  | succ n ih =>
    intro x3 x4 x5 M
    rw [F_X12_winsWith_b39]
    refine A_iload dX12_winsWith_39 rfl ?_
    refine A_aload_n dX12_winsWith_41 rfl ?_
    refine A_geti lf_X12_331 rfl rfl dX12_winsWith_42 ?_
    refine A_icmp_ge (tgt := 95) dX12_winsWith_45 (by decide) (fun _ => ?_) (fun _ => ?_)
    · refine A_iload dX12_winsWith_95 rfl ?_
      refine A_iconst (v := (1 : Int32)) dX12_winsWith_97 oI_1 ?_
      refine A_icmp_ge (tgt := 103) dX12_winsWith_98 (by decide) (fun _ => ?_) (fun _ => ?_)
      · exact (a_X12_winsWith_b103 (l := l) fu x1 x2 hk2 _ _ ).sub ⟨rfl, rfl, rfl, rfl, trivial⟩
      · refine A_iconst (v := (0 : Int32)) dX12_winsWith_101 oI_0 ?_
        exact A_zret' rfl (Or.inl rfl) dX12_winsWith_102
    · refine A_iload dX12_winsWith_48 rfl ?_
      refine A_iload_n dX12_winsWith_50 rfl ?_
      refine A_iload dX12_winsWith_51 rfl ?_
      refine A_callSp (a_X12_has (l := l) _ _ _ ) lc_X12_200 rfl (by decide) (Nat.le_of_ble_eq_true rfl) rfl dX12_winsWith_53 ?_
      refine A_if_eq (tgt := 74) dX12_winsWith_56 (by decide) (fun _ => ?_) (fun _ => ?_)
      · refine A_aload_n dX12_winsWith_74 rfl ?_
        refine A_getr lf_X12_99 rfl rfl dX12_winsWith_75 ?_
        refine A_bipush (v := (16 : Int32)) dX12_winsWith_78 oB_16 ?_
        refine A_iload dX12_winsWith_80 rfl ?_
        refine A_imul dX12_winsWith_82 ?_
        refine A_iload_n dX12_winsWith_83 rfl ?_
        refine A_iadd dX12_winsWith_84 ?_
        refine A_iald rfl dX12_winsWith_85 (fun _ => ?_)
        exact (a_X12_winsWith_b86 (l := l) fu x1 x2 hk2 ih _ _ _ _ _ ).sub ⟨rfl, rfl, rfl, rfl, rfl, trivial⟩
      · refine A_aload_n dX12_winsWith_59 rfl ?_
        refine A_getr lf_X12_102 rfl rfl dX12_winsWith_60 ?_
        refine A_bipush (v := (16 : Int32)) dX12_winsWith_63 oB_16 ?_
        refine A_iload dX12_winsWith_65 rfl ?_
        refine A_imul dX12_winsWith_67 ?_
        refine A_iload_n dX12_winsWith_68 rfl ?_
        refine A_iadd dX12_winsWith_69 ?_
        refine A_iald rfl dX12_winsWith_70 (fun _ => ?_)
        refine A_goto (tgt := 86) dX12_winsWith_71 (by decide) ?_
        exact (a_X12_winsWith_b86 (l := l) fu x1 x2 hk2 ih _ _ _ _ _ ).sub ⟨rfl, rfl, rfl, rfl, rfl, trivial⟩
def F_X12_winsWith_b2 (fu : Nat)  (x1 : Int32) (x2 : Int32)  : Nat → Int32 → xM → Option (Int32 × xM)
  | 0, _, _ => none
  | n + 1, x3, M =>
    (if (M 0 1) ≤ x3 then
    some ((1 : Int32), M)
    else
    (if x3 = x1 then
    F_X12_winsWith_b103 fu x1 x2 (F_X12_winsWith_b2 fu x1 x2 n) x3 M
    else
    (if x3 < 0 ∨ 16 ≤ x3.toNatClampNeg then none else
    (if x1 < 0 ∨ 16 ≤ x1.toNatClampNeg then none else
    (if (M 3 x3.toNatClampNeg) = (M 3 x1.toNatClampNeg) then
    F_X12_winsWith_b39 fu x1 x2 (F_X12_winsWith_b2 fu x1 x2 n) fu x3 (0 : Int32) (0 : Int32) M
    else
    F_X12_winsWith_b103 fu x1 x2 (F_X12_winsWith_b2 fu x1 x2 n) x3 M)))))
set_option maxRecDepth 100000 in
set_option maxHeartbeats 4000000 in
theorem a_X12_winsWith_b2 {l : Launch} (fu : Nat) (x1 : Int32) (x2 : Int32)    : ∀ (n : Nat) (x3 : Int32) (M : xM), AW SM l RX12 cX12_winsWith 6 (some .boolean) 1 ki (F_X12_winsWith_b2 fu x1 x2 n x3 M) 2 [some (xr 0), some (xi x1), some (xi x2), some (xi x3), none, none] [] M := by
  intro n
  induction n with
  | zero =>
    intro x3 M
    exact AW.none
  | succ n ih =>
    intro x3 M
    rw [F_X12_winsWith_b2]
    refine A_iload_n dX12_winsWith_2 rfl ?_
    refine A_aload_n dX12_winsWith_3 rfl ?_
    refine A_geti lf_X12_177 rfl rfl dX12_winsWith_4 ?_
    refine A_icmp_ge (tgt := 109) dX12_winsWith_7 (by decide) (fun _ => ?_) (fun _ => ?_)
    · refine A_iconst (v := (1 : Int32)) dX12_winsWith_109 oI_1 ?_
      exact A_zret' rfl (Or.inr rfl) dX12_winsWith_110
    · refine A_iload_n dX12_winsWith_10 rfl ?_
      refine A_iload_n dX12_winsWith_11 rfl ?_
      refine A_icmp_eq (tgt := 103) dX12_winsWith_12 (by decide) (fun _ => ?_) (fun _ => ?_)
      · exact (a_X12_winsWith_b103 (l := l) fu x1 x2 ih _ _ ).sub ⟨rfl, rfl, rfl, rfl, trivial⟩
      · refine A_aload_n dX12_winsWith_15 rfl ?_
        refine A_getr lf_X12_16 rfl rfl dX12_winsWith_16 ?_
        refine A_iload_n dX12_winsWith_19 rfl ?_
        refine A_iald rfl dX12_winsWith_20 (fun _ => ?_)
        refine A_aload_n dX12_winsWith_21 rfl ?_
        refine A_getr lf_X12_16 rfl rfl dX12_winsWith_22 ?_
        refine A_iload_n dX12_winsWith_25 rfl ?_
        refine A_iald rfl dX12_winsWith_26 (fun _ => ?_)
        refine A_icmp_eq (tgt := 33) dX12_winsWith_27 (by decide) (fun _ => ?_) (fun _ => ?_)
        · refine A_iconst (v := (0 : Int32)) dX12_winsWith_33 oI_0 ?_
          refine A_istore dX12_winsWith_34 (Nat.le_of_ble_eq_true rfl) rfl ?_
          refine A_iconst (v := (0 : Int32)) dX12_winsWith_36 oI_0 ?_
          refine A_istore dX12_winsWith_37 (Nat.le_of_ble_eq_true rfl) rfl ?_
          exact (a_X12_winsWith_b39 (l := l) fu x1 x2 ih fu _ _ _ _).sub ⟨rfl, rfl, rfl, rfl, rfl, rfl, trivial⟩
        · refine A_goto (tgt := 103) dX12_winsWith_30 (by decide) ?_
          exact (a_X12_winsWith_b103 (l := l) fu x1 x2 ih _ _ ).sub ⟨rfl, rfl, rfl, rfl, trivial⟩
def F_X12_winsWith (fu : Nat)  (x1 : Int32) (x2 : Int32)   (M : xM) : Option (Int32 × xM) :=
  F_X12_winsWith_b2 fu x1 x2 fu (0 : Int32) M
set_option maxRecDepth 100000 in
set_option maxHeartbeats 4000000 in
theorem w_X12_winsWith {l : Launch} (fu : Nat) (x1 : Int32) (x2 : Int32)     (M : xM)  : AW SM l RX12 cX12_winsWith 6 (some .boolean) 1 ki (F_X12_winsWith fu x1 x2  M) 0 [some (xr 0), some (xi x1), some (xi x2), none, none, none] [] M := by
  unfold F_X12_winsWith
  refine A_iconst (v := (0 : Int32)) dX12_winsWith_0 oI_0 ?_
  refine A_istore_n dX12_winsWith_1 (Nat.le_of_ble_eq_true rfl) rfl ?_
  exact (a_X12_winsWith_b2 (l := l) fu x1 x2  fu _ _).sub ⟨rfl, rfl, rfl, rfl, trivial⟩
theorem a_X12_winsWith {l : Launch} (fu : Nat)  (x1 : Int32) (x2 : Int32) (M : xM)  : AM SM l yX12_winsWith cX12_winsWith 6 (some .boolean) 1 ki [xr 0, xi x1, xi x2] M (F_X12_winsWith fu x1 x2  M) :=
  AM.of (L0 := [some (xr 0), some (xi x1), some (xi x2), none, none, none]) (w_X12_winsWith (l := l) fu x1 x2  M ) (by decide +kernel) rfl (Nat.le_of_ble_eq_true rfl) ⟨rfl, rfl, rfl, trivial⟩
def F_X12_costOf_b31 (fu : Nat)  (x1 : Int32) (k4 : Int32 → Int32 → xM → Option (Int32 × xM)) (x3 : Int32) (s0 : Int32) (s1 : Int32) (M : xM) : Option (Int32 × xM) :=
  k4 (s1 + s0) (x3 + (1 : Int32)) M
set_option maxRecDepth 100000 in
set_option maxHeartbeats 4000000 in
theorem a_X12_costOf_b31 {l : Launch} (fu : Nat) (x1 : Int32)  {k4 : Int32 → Int32 → xM → Option (Int32 × xM)} (hk4 : ∀ (b0 : Int32) (b1 : Int32) (M : xM), AW SM l RX12 cX12_costOf 4 (some .int) 1 ki (k4 b0 b1 M) 4 [some (xr 0), some (xi x1), some (xi b0), some (xi b1)] [] M) (x3 : Int32) (s0 : Int32) (s1 : Int32) (M : xM)  : AW SM l RX12 cX12_costOf 4 (some .int) 1 ki (F_X12_costOf_b31 fu x1 k4 x3 s0 s1 M) 31 [some (xr 0), some (xi x1), none, some (xi x3)] [xi s0, xi s1] M := by
  unfold F_X12_costOf_b31
  refine A_iadd dX12_costOf_31 ?_
  refine A_istore_n dX12_costOf_32 (Nat.le_of_ble_eq_true rfl) rfl ?_
  refine A_iinc dX12_costOf_33 rfl oI_1 (Nat.le_of_ble_eq_true rfl) rfl ?_
  refine A_goto (tgt := 4) dX12_costOf_36 (by decide) ?_
  exact (hk4 _ _ _).sub ⟨rfl, rfl, rfl, rfl, trivial⟩
def F_X12_costOf_b4 (fu : Nat)  (x1 : Int32)  : Nat → Int32 → Int32 → xM → Option (Int32 × xM)
  | 0, _, _, _ => none
  | n + 1, x2, x3, M =>
    (if (M 0 32) ≤ x3 then
    some (x2, M)
    else
    (if (P_X12_has x1 x3 M) = 0 then
    F_X12_costOf_b31 fu x1 (F_X12_costOf_b4 fu x1 n) x3 (0 : Int32) x2 M
    else
    (if x3 < 0 ∨ 6 ≤ x3.toNatClampNeg then none else
    F_X12_costOf_b31 fu x1 (F_X12_costOf_b4 fu x1 n) x3 (M 14 x3.toNatClampNeg) x2 M)))
set_option maxRecDepth 100000 in
set_option maxHeartbeats 4000000 in
theorem a_X12_costOf_b4 {l : Launch} (fu : Nat) (x1 : Int32)    : ∀ (n : Nat) (x2 : Int32) (x3 : Int32) (M : xM), AW SM l RX12 cX12_costOf 4 (some .int) 1 ki (F_X12_costOf_b4 fu x1 n x2 x3 M) 4 [some (xr 0), some (xi x1), some (xi x2), some (xi x3)] [] M := by
  intro n
  induction n with
  | zero =>
    intro x2 x3 M
    exact AW.none
  | succ n ih =>
    intro x2 x3 M
    rw [F_X12_costOf_b4]
    refine A_iload_n dX12_costOf_4 rfl ?_
    refine A_aload_n dX12_costOf_5 rfl ?_
    refine A_geti lf_X12_331 rfl rfl dX12_costOf_6 ?_
    refine A_icmp_ge (tgt := 39) dX12_costOf_9 (by decide) (fun _ => ?_) (fun _ => ?_)
    · refine A_iload_n dX12_costOf_39 rfl ?_
      exact A_iret rfl dX12_costOf_40
    · refine A_iload_n dX12_costOf_12 rfl ?_
      refine A_iload_n dX12_costOf_13 rfl ?_
      refine A_iload_n dX12_costOf_14 rfl ?_
      refine A_callSp (a_X12_has (l := l) _ _ _ ) lc_X12_200 rfl (by decide) (Nat.le_of_ble_eq_true rfl) rfl dX12_costOf_15 ?_
      refine A_if_eq (tgt := 30) dX12_costOf_18 (by decide) (fun _ => ?_) (fun _ => ?_)
      · refine A_iconst (v := (0 : Int32)) dX12_costOf_30 oI_0 ?_
        exact (a_X12_costOf_b31 (l := l) fu x1 ih _ _ _ _ ).sub ⟨rfl, rfl, rfl, trivial⟩
      · refine A_aload_n dX12_costOf_21 rfl ?_
        refine A_getr lf_X12_69 rfl rfl dX12_costOf_22 ?_
        refine A_iload_n dX12_costOf_25 rfl ?_
        refine A_iald rfl dX12_costOf_26 (fun _ => ?_)
        refine A_goto (tgt := 31) dX12_costOf_27 (by decide) ?_
        exact (a_X12_costOf_b31 (l := l) fu x1 ih _ _ _ _ ).sub ⟨rfl, rfl, rfl, trivial⟩
def F_X12_costOf (fu : Nat)  (x1 : Int32)   (M : xM) : Option (Int32 × xM) :=
  F_X12_costOf_b4 fu x1 fu (0 : Int32) (0 : Int32) M
set_option maxRecDepth 100000 in
set_option maxHeartbeats 4000000 in
theorem w_X12_costOf {l : Launch} (fu : Nat) (x1 : Int32)     (M : xM)  : AW SM l RX12 cX12_costOf 4 (some .int) 1 ki (F_X12_costOf fu x1  M) 0 [some (xr 0), some (xi x1), none, none] [] M := by
  unfold F_X12_costOf
  refine A_iconst (v := (0 : Int32)) dX12_costOf_0 oI_0 ?_
  refine A_istore_n dX12_costOf_1 (Nat.le_of_ble_eq_true rfl) rfl ?_
  refine A_iconst (v := (0 : Int32)) dX12_costOf_2 oI_0 ?_
  refine A_istore_n dX12_costOf_3 (Nat.le_of_ble_eq_true rfl) rfl ?_
  exact (a_X12_costOf_b4 (l := l) fu x1  fu _ _ _).sub ⟨rfl, rfl, rfl, rfl, trivial⟩
theorem a_X12_costOf {l : Launch} (fu : Nat)  (x1 : Int32) (M : xM)  : AM SM l yX12_costOf cX12_costOf 4 (some .int) 1 ki [xr 0, xi x1] M (F_X12_costOf fu x1  M) :=
  AM.of (L0 := [some (xr 0), some (xi x1), none, none]) (w_X12_costOf (l := l) fu x1  M ) (by decide +kernel) rfl (Nat.le_of_ble_eq_true rfl) ⟨rfl, rfl, trivial⟩
def F_X12_till_b70 (fu : Nat)  (x1 : Int32) (x2 : Int32) (k41 : Int32 → Int32 → xM → Option (Int32 × xM)) (x4 : Int32) (s0 : Int32) (s1 : Int32) (M : xM) : Option (Int32 × xM) :=
  k41 (s1 ||| s0) (x4 + (1 : Int32)) M
set_option maxRecDepth 100000 in
set_option maxHeartbeats 4000000 in
theorem a_X12_till_b70 {l : Launch} (fu : Nat) (x1 : Int32) (x2 : Int32)  {k41 : Int32 → Int32 → xM → Option (Int32 × xM)} (hk41 : ∀ (b0 : Int32) (b1 : Int32) (M : xM), AW SM l RX12 cX12_till 7 (some .int) 80 ki (k41 b0 b1 M) 41 [some (xr 0), some (xi x1), some (xi x2), some (xi b0), some (xi b1), none, none] [] M) (x4 : Int32) (s0 : Int32) (s1 : Int32) (M : xM)  : AW SM l RX12 cX12_till 7 (some .int) 80 ki (F_X12_till_b70 fu x1 x2 k41 x4 s0 s1 M) 70 [some (xr 0), some (xi x1), some (xi x2), none, some (xi x4), none, none] [xi s0, xi s1] M := by
  unfold F_X12_till_b70
  refine A_ior dX12_till_70 ?_
  refine A_istore_n dX12_till_71 (Nat.le_of_ble_eq_true rfl) rfl ?_
  refine A_iinc dX12_till_72 rfl oI_1 (Nat.le_of_ble_eq_true rfl) rfl ?_
  refine A_goto (tgt := 41) dX12_till_75 (by decide) ?_
  exact (hk41 _ _ _).sub ⟨rfl, rfl, rfl, rfl, rfl, trivial⟩
def F_X12_till_b166 (fu : Nat)  (x1 : Int32) (x2 : Int32) (k84 : Int32 → Int32 → Int32 → xM → Option (Int32 × xM)) (x3 : Int32) (x4 : Int32) (x5 : Int32) (M : xM) : Option (Int32 × xM) :=
  k84 x3 x4 (x5 + (1 : Int32)) M
set_option maxRecDepth 100000 in
set_option maxHeartbeats 4000000 in
theorem a_X12_till_b166 {l : Launch} (fu : Nat) (x1 : Int32) (x2 : Int32)  {k84 : Int32 → Int32 → Int32 → xM → Option (Int32 × xM)} (hk84 : ∀ (b0 : Int32) (b1 : Int32) (b2 : Int32) (M : xM), AW SM l RX12 cX12_till 7 (some .int) 80 ki (k84 b0 b1 b2 M) 84 [some (xr 0), some (xi x1), some (xi x2), some (xi b0), some (xi b1), some (xi b2), none] [] M) (x3 : Int32) (x4 : Int32) (x5 : Int32) (M : xM)  : AW SM l RX12 cX12_till 7 (some .int) 80 ki (F_X12_till_b166 fu x1 x2 k84 x3 x4 x5 M) 166 [some (xr 0), some (xi x1), some (xi x2), some (xi x3), some (xi x4), some (xi x5), none] [] M := by
  unfold F_X12_till_b166
  refine A_iinc dX12_till_166 rfl oI_1 (Nat.le_of_ble_eq_true rfl) rfl ?_
  refine A_goto (tgt := 84) dX12_till_169 (by decide) ?_
  exact (hk84 _ _ _ _).sub ⟨rfl, rfl, rfl, rfl, rfl, rfl, trivial⟩
def F_X12_till_b162 (fu : Nat)  (x1 : Int32) (x2 : Int32) (k84 : Int32 → Int32 → Int32 → xM → Option (Int32 × xM)) (x3 : Int32) (x5 : Int32) (M : xM) : Option (Int32 × xM) :=
  F_X12_till_b166 fu x1 x2 k84 x3 x5 x5 M
set_option maxRecDepth 100000 in
set_option maxHeartbeats 4000000 in
theorem a_X12_till_b162 {l : Launch} (fu : Nat) (x1 : Int32) (x2 : Int32)  {k84 : Int32 → Int32 → Int32 → xM → Option (Int32 × xM)} (hk84 : ∀ (b0 : Int32) (b1 : Int32) (b2 : Int32) (M : xM), AW SM l RX12 cX12_till 7 (some .int) 80 ki (k84 b0 b1 b2 M) 84 [some (xr 0), some (xi x1), some (xi x2), some (xi b0), some (xi b1), some (xi b2), none] [] M) (x3 : Int32) (x5 : Int32) (M : xM)  : AW SM l RX12 cX12_till 7 (some .int) 80 ki (F_X12_till_b162 fu x1 x2 k84 x3 x5 M) 162 [some (xr 0), some (xi x1), some (xi x2), some (xi x3), none, some (xi x5), none] [] M := by
  unfold F_X12_till_b162
  refine A_iload dX12_till_162 rfl ?_
  refine A_istore dX12_till_164 (Nat.le_of_ble_eq_true rfl) rfl ?_
  exact (a_X12_till_b166 (l := l) fu x1 x2 hk84 _ _ _ _ ).sub ⟨rfl, rfl, rfl, rfl, rfl, rfl, trivial⟩
def F_X12_till_b140 (fu : Nat)  (x1 : Int32) (x2 : Int32) (k84 : Int32 → Int32 → Int32 → xM → Option (Int32 × xM)) (x3 : Int32) (x4 : Int32) (x5 : Int32) (s0 : Int32) (M : xM) : Option (Int32 × xM) :=
  (if s0 < 0 then
  F_X12_till_b162 fu x1 x2 k84 x3 x5 M
  else
  (if s0 = 0 then
  (if (P_X12_isBefore x5 x4 M) = 0 then
  F_X12_till_b166 fu x1 x2 k84 x3 x4 x5 M
  else
  F_X12_till_b162 fu x1 x2 k84 x3 x5 M)
  else
  F_X12_till_b166 fu x1 x2 k84 x3 x4 x5 M))
set_option maxRecDepth 100000 in
set_option maxHeartbeats 4000000 in
theorem a_X12_till_b140 {l : Launch} (fu : Nat) (x1 : Int32) (x2 : Int32)  {k84 : Int32 → Int32 → Int32 → xM → Option (Int32 × xM)} (hk84 : ∀ (b0 : Int32) (b1 : Int32) (b2 : Int32) (M : xM), AW SM l RX12 cX12_till 7 (some .int) 80 ki (k84 b0 b1 b2 M) 84 [some (xr 0), some (xi x1), some (xi x2), some (xi b0), some (xi b1), some (xi b2), none] [] M) (x3 : Int32) (x4 : Int32) (x5 : Int32) (s0 : Int32) (M : xM)  : AW SM l RX12 cX12_till 7 (some .int) 80 ki (F_X12_till_b140 fu x1 x2 k84 x3 x4 x5 s0 M) 140 [some (xr 0), some (xi x1), some (xi x2), some (xi x3), some (xi x4), some (xi x5), none] [xi s0] M := by
  unfold F_X12_till_b140
  refine A_istore dX12_till_140 (Nat.le_of_ble_eq_true rfl) rfl ?_
  refine A_iload dX12_till_142 rfl ?_
  refine A_if_lt (tgt := 162) dX12_till_144 (by decide) (fun _ => ?_) (fun _ => ?_)
  · exact (a_X12_till_b162 (l := l) fu x1 x2 hk84 _ _ _ ).sub ⟨rfl, rfl, rfl, rfl, rfl, trivial⟩
  · refine A_iload dX12_till_147 rfl ?_
    refine A_if_ne (tgt := 166) dX12_till_149 (by decide) (fun _ => ?_) (fun _ => ?_)
    · refine A_iload dX12_till_152 rfl ?_
      refine A_iload dX12_till_154 rfl ?_
      refine A_callSp (a_X12_isBefore (l := l) _ _ _ ) lc_X12_213 rfl (by decide) (Nat.le_of_ble_eq_true rfl) rfl dX12_till_156 ?_
      refine A_if_eq (tgt := 166) dX12_till_159 (by decide) (fun _ => ?_) (fun _ => ?_)
      · exact (a_X12_till_b166 (l := l) fu x1 x2 hk84 _ _ _ _ ).sub ⟨rfl, rfl, rfl, rfl, rfl, rfl, trivial⟩
      · exact (a_X12_till_b162 (l := l) fu x1 x2 hk84 _ _ _ ).sub ⟨rfl, rfl, rfl, rfl, rfl, trivial⟩
    · exact (a_X12_till_b166 (l := l) fu x1 x2 hk84 _ _ _ _ ).sub ⟨rfl, rfl, rfl, rfl, rfl, rfl, trivial⟩
def F_X12_till_b84 (fu : Nat)  (x1 : Int32) (x2 : Int32)  : Nat → Int32 → Int32 → Int32 → xM → Option (Int32 × xM)
  | 0, _, _, _, _ => none
  | n + 1, x3, x4, x5, M =>
    (if ((1 : Int32) <<< ((M 0 32) &&& 31)) ≤ x5 then
    (if x4 = (-1 : Int32) then
    some ((-1 : Int32), M)
    else
    (if x2 = 0 then
    some (x4, M)
    else
    (F_X12_costOf fu x4 M).bind fun q1 =>
    some (q1.1, q1.2)))
    else
    (if (x5 &&& (x3 ^^^ (-1 : Int32))) = 0 then
    (F_X12_winsWith fu x1 x5 M).bind fun q2 =>
    (if q2.1 = 0 then
    F_X12_till_b166 fu x1 x2 (F_X12_till_b84 fu x1 x2 n) x3 x4 x5 q2.2
    else
    (if x4 = (-1 : Int32) then
    F_X12_till_b140 fu x1 x2 (F_X12_till_b84 fu x1 x2 n) x3 x4 x5 (-1 : Int32) q2.2
    else
    (F_X12_costOf fu x5 q2.2).bind fun q3 =>
    (F_X12_costOf fu x4 q3.2).bind fun q4 =>
    F_X12_till_b140 fu x1 x2 (F_X12_till_b84 fu x1 x2 n) x3 x4 x5 (q3.1 - q4.1) q4.2))
    else
    F_X12_till_b166 fu x1 x2 (F_X12_till_b84 fu x1 x2 n) x3 x4 x5 M))
set_option maxRecDepth 100000 in
set_option maxHeartbeats 4000000 in
theorem a_X12_till_b84 {l : Launch} (fu : Nat) (x1 : Int32) (x2 : Int32)    : ∀ (n : Nat) (x3 : Int32) (x4 : Int32) (x5 : Int32) (M : xM), AW SM l RX12 cX12_till 7 (some .int) 80 ki (F_X12_till_b84 fu x1 x2 n x3 x4 x5 M) 84 [some (xr 0), some (xi x1), some (xi x2), some (xi x3), some (xi x4), some (xi x5), none] [] M := by
  intro n
  induction n with
  | zero =>
    intro x3 x4 x5 M
    exact AW.none
  | succ n ih =>
    intro x3 x4 x5 M
    rw [F_X12_till_b84]
    refine A_iload dX12_till_84 rfl ?_
    refine A_iconst (v := (1 : Int32)) dX12_till_86 oI_1 ?_
    refine A_aload_n dX12_till_87 rfl ?_
    refine A_geti lf_X12_331 rfl rfl dX12_till_88 ?_
    refine A_ishl dX12_till_91 ?_
    refine A_icmp_ge (tgt := 172) dX12_till_92 (by decide) (fun _ => ?_) (fun _ => ?_)
    · refine A_iload dX12_till_172 rfl ?_
      refine A_iconst (v := (-1 : Int32)) dX12_till_174 oI_m1 ?_
      refine A_icmp_ne (tgt := 182) dX12_till_175 (by decide) (fun _ => ?_) (fun _ => ?_)
      · refine A_iconst (v := (-1 : Int32)) dX12_till_178 oI_m1 ?_
        refine A_goto (tgt := 197) dX12_till_179 (by decide) ?_
        exact A_iret rfl dX12_till_197
      · refine A_iload_n dX12_till_182 rfl ?_
        refine A_if_ne (tgt := 191) dX12_till_183 (by decide) (fun _ => ?_) (fun _ => ?_)
        · refine A_iload dX12_till_186 rfl ?_
          refine A_goto (tgt := 197) dX12_till_188 (by decide) ?_
          exact A_iret rfl dX12_till_197
        · refine A_aload_n dX12_till_191 rfl ?_
          refine A_iload dX12_till_192 rfl ?_
          refine A_callVi (a_X12_costOf (l := l) fu _ _ ) lc_X12_417 rfl rfl (by decide) (Nat.le_of_ble_eq_true rfl) rfl dX12_till_194 (fun q1 Mq1 hq1 => ?_)
          exact A_iret rfl dX12_till_197
    · refine A_iload dX12_till_95 rfl ?_
      refine A_iload_n dX12_till_97 rfl ?_
      refine A_iconst (v := (-1 : Int32)) dX12_till_98 oI_m1 ?_
      refine A_ixor dX12_till_99 ?_
      refine A_iand dX12_till_100 ?_
      refine A_if_ne (tgt := 166) dX12_till_101 (by decide) (fun _ => ?_) (fun _ => ?_)
      · refine A_aload_n dX12_till_104 rfl ?_
        refine A_iload_n dX12_till_105 rfl ?_
        refine A_iload dX12_till_106 rfl ?_
        refine A_callVi (a_X12_winsWith (l := l) fu _ _ _ ) lc_X12_414 rfl rfl (by decide) (Nat.le_of_ble_eq_true rfl) rfl dX12_till_108 (fun q2 Mq2 hq2 => ?_)
        refine A_if_ne (tgt := 117) dX12_till_111 (by decide) (fun _ => ?_) (fun _ => ?_)
        · refine A_goto (tgt := 166) dX12_till_114 (by decide) ?_
          exact (a_X12_till_b166 (l := l) fu x1 x2 ih _ _ _ _ ).sub ⟨rfl, rfl, rfl, rfl, rfl, rfl, trivial⟩
        · refine A_iload dX12_till_117 rfl ?_
          refine A_iconst (v := (-1 : Int32)) dX12_till_119 oI_m1 ?_
          refine A_icmp_ne (tgt := 127) dX12_till_120 (by decide) (fun _ => ?_) (fun _ => ?_)
          · refine A_iconst (v := (-1 : Int32)) dX12_till_123 oI_m1 ?_
            refine A_goto (tgt := 140) dX12_till_124 (by decide) ?_
            exact (a_X12_till_b140 (l := l) fu x1 x2 ih _ _ _ _ _ ).sub ⟨rfl, rfl, rfl, rfl, rfl, rfl, trivial⟩
          · refine A_aload_n dX12_till_127 rfl ?_
            refine A_iload dX12_till_128 rfl ?_
            refine A_callVi (a_X12_costOf (l := l) fu _ _ ) lc_X12_417 rfl rfl (by decide) (Nat.le_of_ble_eq_true rfl) rfl dX12_till_130 (fun q3 Mq3 hq3 => ?_)
            refine A_aload_n dX12_till_133 rfl ?_
            refine A_iload dX12_till_134 rfl ?_
            refine A_callVi (a_X12_costOf (l := l) fu _ _ ) lc_X12_417 rfl rfl (by decide) (Nat.le_of_ble_eq_true rfl) rfl dX12_till_136 (fun q4 Mq4 hq4 => ?_)
            refine A_isub dX12_till_139 ?_
            exact (a_X12_till_b140 (l := l) fu x1 x2 ih _ _ _ _ _ ).sub ⟨rfl, rfl, rfl, rfl, rfl, rfl, trivial⟩
      · exact (a_X12_till_b166 (l := l) fu x1 x2 ih _ _ _ _ ).sub ⟨rfl, rfl, rfl, rfl, rfl, rfl, trivial⟩
def F_X12_till_b41 (fu : Nat)  (x1 : Int32) (x2 : Int32)  : Nat → Int32 → Int32 → xM → Option (Int32 × xM)
  | 0, _, _, _ => none
  | n + 1, x3, x4, M =>
    (if (M 0 32) ≤ x4 then
    F_X12_till_b84 fu x1 x2 fu x3 (-1 : Int32) (0 : Int32) M
    else
    (if x4 < 0 ∨ 6 ≤ x4.toNatClampNeg then none else
    (if (M 13 x4.toNatClampNeg) = (-1 : Int32) then
    F_X12_till_b70 fu x1 x2 (F_X12_till_b41 fu x1 x2 n) x4 ((1 : Int32) <<< (x4 &&& 31)) x3 M
    else
    F_X12_till_b70 fu x1 x2 (F_X12_till_b41 fu x1 x2 n) x4 (0 : Int32) x3 M)))
set_option maxRecDepth 100000 in
set_option maxHeartbeats 4000000 in
theorem a_X12_till_b41 {l : Launch} (fu : Nat) (x1 : Int32) (x2 : Int32)    : ∀ (n : Nat) (x3 : Int32) (x4 : Int32) (M : xM), AW SM l RX12 cX12_till 7 (some .int) 80 ki (F_X12_till_b41 fu x1 x2 n x3 x4 M) 41 [some (xr 0), some (xi x1), some (xi x2), some (xi x3), some (xi x4), none, none] [] M := by
  intro n
  induction n with
  | zero =>
    intro x3 x4 M
    exact AW.none
  | succ n ih =>
    intro x3 x4 M
    rw [F_X12_till_b41]
    refine A_iload dX12_till_41 rfl ?_
    refine A_aload_n dX12_till_43 rfl ?_
    refine A_geti lf_X12_331 rfl rfl dX12_till_44 ?_
    refine A_icmp_ge (tgt := 78) dX12_till_47 (by decide) (fun _ => ?_) (fun _ => ?_)
    · refine A_iconst (v := (-1 : Int32)) dX12_till_78 oI_m1 ?_
      refine A_istore dX12_till_79 (Nat.le_of_ble_eq_true rfl) rfl ?_
      refine A_iconst (v := (0 : Int32)) dX12_till_81 oI_0 ?_
      refine A_istore dX12_till_82 (Nat.le_of_ble_eq_true rfl) rfl ?_
      exact (a_X12_till_b84 (l := l) fu x1 x2  fu _ _ _ _).sub ⟨rfl, rfl, rfl, rfl, rfl, rfl, trivial⟩
    · refine A_iload_n dX12_till_50 rfl ?_
      refine A_aload_n dX12_till_51 rfl ?_
      refine A_getr lf_X12_66 rfl rfl dX12_till_52 ?_
      refine A_iload dX12_till_55 rfl ?_
      refine A_iald rfl dX12_till_57 (fun _ => ?_)
      refine A_iconst (v := (-1 : Int32)) dX12_till_58 oI_m1 ?_
      refine A_icmp_ne (tgt := 69) dX12_till_59 (by decide) (fun _ => ?_) (fun _ => ?_)
      · refine A_iconst (v := (1 : Int32)) dX12_till_62 oI_1 ?_
        refine A_iload dX12_till_63 rfl ?_
        refine A_ishl dX12_till_65 ?_
        refine A_goto (tgt := 70) dX12_till_66 (by decide) ?_
        exact (a_X12_till_b70 (l := l) fu x1 x2 ih _ _ _ _ ).sub ⟨rfl, rfl, rfl, rfl, trivial⟩
      · refine A_iconst (v := (0 : Int32)) dX12_till_69 oI_0 ?_
        exact (a_X12_till_b70 (l := l) fu x1 x2 ih _ _ _ _ ).sub ⟨rfl, rfl, rfl, rfl, trivial⟩
def F_X12_till (fu : Nat)  (x1 : Int32) (x2 : Int32)   (M : xM) : Option (Int32 × xM) :=
  (F_X12_isOfOffice x1 (xset M 0 0 (0 : Int32))).bind fun q1 =>
  (if q1.1 = 0 then
  some ((-1 : Int32), q1.2)
  else
  (if (P_X12_isIn x2 (0 : Int32) (1 : Int32) q1.2) = 0 then
  some ((-1 : Int32), q1.2)
  else
  (F_X12_areFound fu q1.2).bind fun q2 =>
  (if q2.1 = 0 then
  some ((-1 : Int32), q2.2)
  else
  (F_X12_layGains fu x1 q2.2).bind fun q3 =>
  F_X12_till_b41 fu x1 x2 fu (0 : Int32) (0 : Int32) q3)))
set_option maxRecDepth 100000 in
set_option maxHeartbeats 4000000 in
theorem w_X12_till {l : Launch} (fu : Nat) (x1 : Int32) (x2 : Int32)     (M : xM)  : AW SM l RX12 cX12_till 7 (some .int) 80 ki (F_X12_till fu x1 x2  M) 0 [some (xr 0), some (xi x1), some (xi x2), none, none, none, none] [] M := by
  unfold F_X12_till
  refine A_aload_n dX12_till_0 rfl ?_
  refine A_iconst (v := (0 : Int32)) dX12_till_1 oI_0 ?_
  refine A_puti lf_X12_180 rfl rfl dX12_till_2 ?_
  refine A_aload_n dX12_till_5 rfl ?_
  refine A_iload_n dX12_till_6 rfl ?_
  refine A_callVi (a_X12_isOfOffice (l := l) _ _ ) lc_X12_384 rfl rfl (by decide) (Nat.le_of_ble_eq_true rfl) rfl dX12_till_7 (fun q1 Mq1 hq1 => ?_)
  refine A_if_eq (tgt := 29) dX12_till_10 (by decide) (fun _ => ?_) (fun _ => ?_)
  · refine A_iconst (v := (-1 : Int32)) dX12_till_29 oI_m1 ?_
    exact A_iret rfl dX12_till_30
  · refine A_iload_n dX12_till_13 rfl ?_
    refine A_iconst (v := (0 : Int32)) dX12_till_14 oI_0 ?_
    refine A_iconst (v := (1 : Int32)) dX12_till_15 oI_1 ?_
    refine A_callSp (a_X12_isIn (l := l) _ _ _ _ ) lc_X12_196 rfl (by decide) (Nat.le_of_ble_eq_true rfl) rfl dX12_till_16 ?_
    refine A_if_eq (tgt := 29) dX12_till_19 (by decide) (fun _ => ?_) (fun _ => ?_)
    · refine A_iconst (v := (-1 : Int32)) dX12_till_29 oI_m1 ?_
      exact A_iret rfl dX12_till_30
    · refine A_aload_n dX12_till_22 rfl ?_
      refine A_callVi (a_X12_areFound (l := l) fu  _ ) lc_X12_405 rfl rfl (by decide) (Nat.le_of_ble_eq_true rfl) rfl dX12_till_23 (fun q2 Mq2 hq2 => ?_)
      refine A_if_ne (tgt := 31) dX12_till_26 (by decide) (fun _ => ?_) (fun _ => ?_)
      · refine A_iconst (v := (-1 : Int32)) dX12_till_29 oI_m1 ?_
        exact A_iret rfl dX12_till_30
      · refine A_aload_n dX12_till_31 rfl ?_
        refine A_iload_n dX12_till_32 rfl ?_
        refine A_callVv (a_X12_layGains (l := l) fu _ _ ) lc_X12_411 rfl rfl (by decide) (Nat.le_of_ble_eq_true rfl) rfl dX12_till_33 (fun q3 hq3 => ?_)
        refine A_iconst (v := (0 : Int32)) dX12_till_36 oI_0 ?_
        refine A_istore_n dX12_till_37 (Nat.le_of_ble_eq_true rfl) rfl ?_
        refine A_iconst (v := (0 : Int32)) dX12_till_38 oI_0 ?_
        refine A_istore dX12_till_39 (Nat.le_of_ble_eq_true rfl) rfl ?_
        exact (a_X12_till_b41 (l := l) fu x1 x2  fu _ _ _).sub ⟨rfl, rfl, rfl, rfl, rfl, trivial⟩
theorem a_X12_till {l : Launch} (fu : Nat)  (x1 : Int32) (x2 : Int32) (M : xM)  : AM SM l yX12_till cX12_till 7 (some .int) 80 ki [xr 0, xi x1, xi x2] M (F_X12_till fu x1 x2  M) :=
  AM.of (L0 := [some (xr 0), some (xi x1), some (xi x2), none, none, none, none]) (w_X12_till (l := l) fu x1 x2  M ) (by decide +kernel) rfl (Nat.le_of_ble_eq_true rfl) ⟨rfl, rfl, rfl, trivial⟩
