theorem lf_X12_132 : xfl RX12 132 11 59 (tyX12 59) false := ⟨_, _, _, _, xc_X12, by decide, rfl, rfl, rfl, lw_gm 1472 (by decide +kernel) rfl⟩
theorem lf_X12_135 : xfl RX12 135 11 60 (tyX12 60) true := ⟨_, _, _, _, xc_X12, by decide, rfl, rfl, rfl, lw_gm 1473 (by decide +kernel) rfl⟩
theorem lf_X12_138 : xfl RX12 138 11 61 (tyX12 61) true := ⟨_, _, _, _, xc_X12, by decide, rfl, rfl, rfl, lw_gm 1474 (by decide +kernel) rfl⟩
theorem lf_X12_141 : xfl RX12 141 11 62 (tyX12 62) true := ⟨_, _, _, _, xc_X12, by decide, rfl, rfl, rfl, lw_gm 1475 (by decide +kernel) rfl⟩
theorem lf_X12_144 : xfl RX12 144 11 63 (tyX12 63) true := ⟨_, _, _, _, xc_X12, by decide, rfl, rfl, rfl, lw_gm 1476 (by decide +kernel) rfl⟩
theorem lf_X12_147 : xfl RX12 147 11 64 (tyX12 64) true := ⟨_, _, _, _, xc_X12, by decide, rfl, rfl, rfl, lw_gm 1477 (by decide +kernel) rfl⟩
theorem lf_X12_150 : xfl RX12 150 11 65 (tyX12 65) true := ⟨_, _, _, _, xc_X12, by decide, rfl, rfl, rfl, lw_gm 1478 (by decide +kernel) rfl⟩
theorem lf_X12_153 : xfl RX12 153 11 66 (tyX12 66) true := ⟨_, _, _, _, xc_X12, by decide, rfl, rfl, rfl, lw_gm 1479 (by decide +kernel) rfl⟩
theorem lc_X12_465 : xlV RX12 465 yX12_isRead cX12_isRead 3 (some .boolean) 2 11 := ⟨⟨lw_gm 2064 (by decide +kernel) rfl, lw_gm 117 (by decide +kernel) rfl, lw_gm 2067 (by decide +kernel) rfl, ⟨by decide, by decide, by decide +kernel⟩, by decide⟩, lw_gm 2066 (by decide +kernel) rfl, lw_gm 90 (by decide +kernel) rfl, _, _, rfl⟩
theorem lc_X12_468 : xlV RX12 468 yX12_farOf cX12_farOf 8 (some .int) 2 11 := ⟨⟨lw_gm 2068 (by decide +kernel) rfl, lw_gm 117 (by decide +kernel) rfl, lw_gm 2071 (by decide +kernel) rfl, ⟨by decide, by decide, by decide +kernel⟩, by decide⟩, lw_gm 2070 (by decide +kernel) rfl, lw_gm 91 (by decide +kernel) rfl, _, _, rfl⟩
theorem lc_X12_471 : xlV RX12 471 yX12_goesOf cX12_goesOf 5 (some .int) 1 11 := ⟨⟨lw_gm 2076 (by decide +kernel) rfl, lw_gm 117 (by decide +kernel) rfl, lw_gm 2079 (by decide +kernel) rfl, ⟨by decide, by decide, by decide +kernel⟩, by decide⟩, lw_gm 2078 (by decide +kernel) rfl, lw_gm 92 (by decide +kernel) rfl, _, _, rfl⟩
theorem lc_X12_474 : xlS RX12 474 yJ6_numberOfTrailingZeros_0f7a4 cJ6_numberOfTrailingZeros_0f7a4 2 (some .int) 1 := ⟨⟨lw_gm 2088 (by decide +kernel) rfl, lw_gm 118 (by decide +kernel) rfl, lw_gm 1210 (by decide +kernel) rfl, ⟨by decide, by decide, by decide +kernel⟩, by decide⟩, lw_gm 1209 (by decide +kernel) rfl⟩
theorem lc_X12_477 : xlV RX12 477 yX12_agreesOn cX12_agreesOn 5 (some .int) 1 11 := ⟨⟨lw_gm 2084 (by decide +kernel) rfl, lw_gm 117 (by decide +kernel) rfl, lw_gm 2087 (by decide +kernel) rfl, ⟨by decide, by decide, by decide +kernel⟩, by decide⟩, lw_gm 2086 (by decide +kernel) rfl, lw_gm 93 (by decide +kernel) rfl, _, _, rfl⟩
theorem lc_X12_480 : xlV RX12 480 yX12_areSame cX12_areSame 4 (some .boolean) 2 11 := ⟨⟨lw_gm 2101 (by decide +kernel) rfl, lw_gm 117 (by decide +kernel) rfl, lw_gm 2104 (by decide +kernel) rfl, ⟨by decide, by decide, by decide +kernel⟩, by decide⟩, lw_gm 2103 (by decide +kernel) rfl, lw_gm 96 (by decide +kernel) rfl, _, _, rfl⟩
theorem lc_X12_483 : xlV RX12 483 yX12_isAnyRead cX12_isAnyRead 3 (some .boolean) 1 11 := ⟨⟨lw_gm 2093 (by decide +kernel) rfl, lw_gm 117 (by decide +kernel) rfl, lw_gm 2096 (by decide +kernel) rfl, ⟨by decide, by decide, by decide +kernel⟩, by decide⟩, lw_gm 2095 (by decide +kernel) rfl, lw_gm 94 (by decide +kernel) rfl, _, _, rfl⟩
theorem lc_X12_486 : xlV RX12 486 yX12_isReadUnlike cX12_isReadUnlike 4 (some .boolean) 1 11 := ⟨⟨lw_gm 2097 (by decide +kernel) rfl, lw_gm 117 (by decide +kernel) rfl, lw_gm 2100 (by decide +kernel) rfl, ⟨by decide, by decide, by decide +kernel⟩, by decide⟩, lw_gm 2099 (by decide +kernel) rfl, lw_gm 95 (by decide +kernel) rfl, _, _, rfl⟩
theorem lc_X12_489 : xlV RX12 489 yX12_written cX12_written 7 (some .int) 2 11 := ⟨⟨lw_gm 2109 (by decide +kernel) rfl, lw_gm 117 (by decide +kernel) rfl, lw_gm 2112 (by decide +kernel) rfl, ⟨by decide, by decide, by decide +kernel⟩, by decide⟩, lw_gm 2111 (by decide +kernel) rfl, lw_gm 97 (by decide +kernel) rfl, _, _, rfl⟩
theorem lc_X12_492 : xlV RX12 492 yX12_ahead cX12_ahead 3 (some .int) 2 11 := ⟨⟨lw_gm 2125 (by decide +kernel) rfl, lw_gm 117 (by decide +kernel) rfl, lw_gm 1937 (by decide +kernel) rfl, ⟨by decide, by decide, by decide +kernel⟩, by decide⟩, lw_gm 1935 (by decide +kernel) rfl, lw_gm 1936 (by decide +kernel) rfl, _, _, rfl⟩
def F_X12_limit  (x1 : Int32)   (M : xM) : Option (Int32 × xM) :=
  (if (P_X12_isIn x1 (0 : Int32) (8 : Int32) (xset M 0 0 (0 : Int32))) = 0 then
  some ((0 : Int32), (xset M 0 0 (0 : Int32)))
  else
  some ((1 : Int32), (xset (xset M 0 0 (0 : Int32)) 0 59 x1)))
set_option maxRecDepth 100000 in
set_option maxHeartbeats 4000000 in
theorem w_X12_limit {l : Launch} (x1 : Int32)     (M : xM)  : AW SM l RX12 cX12_limit 2 (some .boolean) 1 ki (F_X12_limit x1  M) 0 [some (xr 0), some (xi x1)] [] M := by
  unfold F_X12_limit
  refine A_aload_n dX12_limit_0 rfl ?_
  refine A_iconst (v := (0 : Int32)) dX12_limit_1 oI_0 ?_
  refine A_puti lf_X12_180 rfl rfl dX12_limit_2 ?_
  refine A_iload_n dX12_limit_5 rfl ?_
  refine A_iconst (v := (0 : Int32)) dX12_limit_6 oI_0 ?_
  refine A_bipush (v := (8 : Int32)) dX12_limit_7 oB_8 ?_
  refine A_callSp (a_X12_isIn (l := l) _ _ _ _ ) lc_X12_196 rfl (by decide) (Nat.le_of_ble_eq_true rfl) rfl dX12_limit_9 ?_
  refine A_if_ne (tgt := 17) dX12_limit_12 (by decide) (fun _ => ?_) (fun _ => ?_)
  · refine A_iconst (v := (0 : Int32)) dX12_limit_15 oI_0 ?_
    exact A_zret' rfl (Or.inl rfl) dX12_limit_16
  · refine A_aload_n dX12_limit_17 rfl ?_
    refine A_iload_n dX12_limit_18 rfl ?_
    refine A_puti lf_X12_132 rfl rfl dX12_limit_19 ?_
    refine A_iconst (v := (1 : Int32)) dX12_limit_22 oI_1 ?_
    exact A_zret' rfl (Or.inr rfl) dX12_limit_23
theorem a_X12_limit {l : Launch}  (x1 : Int32) (M : xM)  : AM SM l yX12_limit cX12_limit 2 (some .boolean) 1 ki [xr 0, xi x1] M (F_X12_limit  x1  M) :=
  AM.of (L0 := [some (xr 0), some (xi x1)]) (w_X12_limit (l := l) x1  M ) (by decide +kernel) rfl (Nat.le_of_ble_eq_true rfl) ⟨rfl, rfl, trivial⟩
def F_X12_farOf_b164 (fu : Nat)  (x1 : Int32) (x2 : Int32) (k2 : Int32 → xM → Option (Int32 × xM)) (k15 : Int32 → Int32 → xM → Option (Int32 × xM)) (x3 : Int32) (x4 : Int32) (x5 : Int32) (M : xM) : Option (Int32 × xM) :=
  (if (((9 : Int32) * x3) + x4) < 0 ∨ 81 ≤ (((9 : Int32) * x3) + x4).toNatClampNeg then none else
  k15 x3 (x4 + (1 : Int32)) (xset M 35 (((9 : Int32) * x3) + x4).toNatClampNeg x5))
set_option maxRecDepth 100000 in
set_option maxHeartbeats 4000000 in
theorem a_X12_farOf_b164 {l : Launch} (fu : Nat) (x1 : Int32) (x2 : Int32)  {k2 : Int32 → xM → Option (Int32 × xM)} {k15 : Int32 → Int32 → xM → Option (Int32 × xM)} (hk2 : ∀ (b0 : Int32) (M : xM), AW SM l RX12 cX12_farOf 8 (some .int) 2 ki (k2 b0 M) 2 [some (xr 0), some (xi x1), some (xi x2), some (xi b0), none, none, none, none] [] M) (hk15 : ∀ (b0 : Int32) (b1 : Int32) (M : xM), AW SM l RX12 cX12_farOf 8 (some .int) 2 ki (k15 b0 b1 M) 15 [some (xr 0), some (xi x1), some (xi x2), some (xi b0), some (xi b1), none, none, none] [] M) (x3 : Int32) (x4 : Int32) (x5 : Int32) (M : xM)  : AW SM l RX12 cX12_farOf 8 (some .int) 2 ki (F_X12_farOf_b164 fu x1 x2 k2 k15 x3 x4 x5 M) 164 [some (xr 0), some (xi x1), some (xi x2), some (xi x3), some (xi x4), some (xi x5), none, none] [] M := by
  unfold F_X12_farOf_b164
  refine A_aload_n dX12_farOf_164 rfl ?_
  refine A_getr lf_X12_135 rfl rfl dX12_farOf_165 ?_
  refine A_bipush (v := (9 : Int32)) dX12_farOf_168 oB_9 ?_
  refine A_iload_n dX12_farOf_170 rfl ?_
  refine A_imul dX12_farOf_171 ?_
  refine A_iload dX12_farOf_172 rfl ?_
  refine A_iadd dX12_farOf_174 ?_
  refine A_iload dX12_farOf_175 rfl ?_
  refine A_iast rfl dX12_farOf_177 (fun _ => ?_)
  refine A_iinc dX12_farOf_178 rfl oI_1 (Nat.le_of_ble_eq_true rfl) rfl ?_
  refine A_goto (tgt := 15) dX12_farOf_181 (by decide) ?_
  exact (hk15 _ _ _).sub ⟨rfl, rfl, rfl, rfl, rfl, trivial⟩
def F_X12_farOf_b121 (fu : Nat)  (x1 : Int32) (x2 : Int32) (k2 : Int32 → xM → Option (Int32 × xM)) (k15 : Int32 → Int32 → xM → Option (Int32 × xM)) (x3 : Int32) (x4 : Int32) (s0 : Int32) (s1 : Int32) (M : xM) : Option (Int32 × xM) :=
  (if (((9 : Int32) * (x3 - (1 : Int32))) + x4) < 0 ∨ 81 ≤ (((9 : Int32) * (x3 - (1 : Int32))) + x4).toNatClampNeg then none else
  (if ((((9 : Int32) * x3) + x4) - (1 : Int32)) < 0 ∨ 81 ≤ ((((9 : Int32) * x3) + x4) - (1 : Int32)).toNatClampNeg then none else
  F_X12_farOf_b164 fu x1 x2 k2 k15 x3 x4 (jmin (s1 + s0) ((1 : Int32) + (jmin (M 35 (((9 : Int32) * (x3 - (1 : Int32))) + x4).toNatClampNeg) (M 35 ((((9 : Int32) * x3) + x4) - (1 : Int32)).toNatClampNeg)))) M))
set_option maxRecDepth 100000 in
set_option maxHeartbeats 4000000 in
theorem a_X12_farOf_b121 {l : Launch} (fu : Nat) (x1 : Int32) (x2 : Int32)  {k2 : Int32 → xM → Option (Int32 × xM)} {k15 : Int32 → Int32 → xM → Option (Int32 × xM)} (hk2 : ∀ (b0 : Int32) (M : xM), AW SM l RX12 cX12_farOf 8 (some .int) 2 ki (k2 b0 M) 2 [some (xr 0), some (xi x1), some (xi x2), some (xi b0), none, none, none, none] [] M) (hk15 : ∀ (b0 : Int32) (b1 : Int32) (M : xM), AW SM l RX12 cX12_farOf 8 (some .int) 2 ki (k15 b0 b1 M) 15 [some (xr 0), some (xi x1), some (xi x2), some (xi b0), some (xi b1), none, none, none] [] M) (x3 : Int32) (x4 : Int32) (s0 : Int32) (s1 : Int32) (M : xM)  : AW SM l RX12 cX12_farOf 8 (some .int) 2 ki (F_X12_farOf_b121 fu x1 x2 k2 k15 x3 x4 s0 s1 M) 121 [some (xr 0), some (xi x1), some (xi x2), some (xi x3), some (xi x4), none, none, none] [xi s0, xi s1] M := by
  unfold F_X12_farOf_b121
  refine A_iadd dX12_farOf_121 ?_
  refine A_istore dX12_farOf_122 (Nat.le_of_ble_eq_true rfl) rfl ?_
  refine A_iload dX12_farOf_124 rfl ?_
  refine A_iconst (v := (1 : Int32)) dX12_farOf_126 oI_1 ?_
  refine A_aload_n dX12_farOf_127 rfl ?_
  refine A_getr lf_X12_135 rfl rfl dX12_farOf_128 ?_
  refine A_bipush (v := (9 : Int32)) dX12_farOf_131 oB_9 ?_
  refine A_iload_n dX12_farOf_133 rfl ?_
  refine A_iconst (v := (1 : Int32)) dX12_farOf_134 oI_1 ?_
  refine A_isub dX12_farOf_135 ?_
  refine A_imul dX12_farOf_136 ?_
  refine A_iload dX12_farOf_137 rfl ?_
  refine A_iadd dX12_farOf_139 ?_
  refine A_iald rfl dX12_farOf_140 (fun _ => ?_)
  refine A_aload_n dX12_farOf_141 rfl ?_
  refine A_getr lf_X12_135 rfl rfl dX12_farOf_142 ?_
  refine A_bipush (v := (9 : Int32)) dX12_farOf_145 oB_9 ?_
  refine A_iload_n dX12_farOf_147 rfl ?_
  refine A_imul dX12_farOf_148 ?_
  refine A_iload dX12_farOf_149 rfl ?_
  refine A_iadd dX12_farOf_151 ?_
  refine A_iconst (v := (1 : Int32)) dX12_farOf_152 oI_1 ?_
  refine A_isub dX12_farOf_153 ?_
  refine A_iald rfl dX12_farOf_154 (fun _ => ?_)
  refine A_jmin lc_X12_168 (by decide) (Nat.le_of_ble_eq_true rfl) dX12_farOf_155 ?_
  refine A_iadd dX12_farOf_158 ?_
  refine A_jmin lc_X12_168 (by decide) (Nat.le_of_ble_eq_true rfl) dX12_farOf_159 ?_
  refine A_istore dX12_farOf_162 (Nat.le_of_ble_eq_true rfl) rfl ?_
  exact (a_X12_farOf_b164 (l := l) fu x1 x2 hk2 hk15 _ _ _ _ ).sub ⟨rfl, rfl, rfl, rfl, rfl, rfl, trivial⟩
def F_X12_farOf_b93 (fu : Nat)  (x1 : Int32) (x2 : Int32) (k2 : Int32 → xM → Option (Int32 × xM)) (k15 : Int32 → Int32 → xM → Option (Int32 × xM)) (x3 : Int32) (x4 : Int32) (s0 : Int32) (M : xM) : Option (Int32 × xM) :=
  (if ((((9 : Int32) * (x3 - (1 : Int32))) + x4) - (1 : Int32)) < 0 ∨ 81 ≤ ((((9 : Int32) * (x3 - (1 : Int32))) + x4) - (1 : Int32)).toNatClampNeg then none else
  (if s0 = 0 then
  F_X12_farOf_b121 fu x1 x2 k2 k15 x3 x4 (1 : Int32) (M 35 ((((9 : Int32) * (x3 - (1 : Int32))) + x4) - (1 : Int32)).toNatClampNeg) M
  else
  F_X12_farOf_b121 fu x1 x2 k2 k15 x3 x4 (0 : Int32) (M 35 ((((9 : Int32) * (x3 - (1 : Int32))) + x4) - (1 : Int32)).toNatClampNeg) M))
set_option maxRecDepth 100000 in
set_option maxHeartbeats 4000000 in
theorem a_X12_farOf_b93 {l : Launch} (fu : Nat) (x1 : Int32) (x2 : Int32)  {k2 : Int32 → xM → Option (Int32 × xM)} {k15 : Int32 → Int32 → xM → Option (Int32 × xM)} (hk2 : ∀ (b0 : Int32) (M : xM), AW SM l RX12 cX12_farOf 8 (some .int) 2 ki (k2 b0 M) 2 [some (xr 0), some (xi x1), some (xi x2), some (xi b0), none, none, none, none] [] M) (hk15 : ∀ (b0 : Int32) (b1 : Int32) (M : xM), AW SM l RX12 cX12_farOf 8 (some .int) 2 ki (k15 b0 b1 M) 15 [some (xr 0), some (xi x1), some (xi x2), some (xi b0), some (xi b1), none, none, none] [] M) (x3 : Int32) (x4 : Int32) (s0 : Int32) (M : xM)  : AW SM l RX12 cX12_farOf 8 (some .int) 2 ki (F_X12_farOf_b93 fu x1 x2 k2 k15 x3 x4 s0 M) 93 [some (xr 0), some (xi x1), some (xi x2), some (xi x3), some (xi x4), none, none, none] [xi s0] M := by
  unfold F_X12_farOf_b93
  refine A_istore dX12_farOf_93 (Nat.le_of_ble_eq_true rfl) rfl ?_
  refine A_aload_n dX12_farOf_95 rfl ?_
  refine A_getr lf_X12_135 rfl rfl dX12_farOf_96 ?_
  refine A_bipush (v := (9 : Int32)) dX12_farOf_99 oB_9 ?_
  refine A_iload_n dX12_farOf_101 rfl ?_
  refine A_iconst (v := (1 : Int32)) dX12_farOf_102 oI_1 ?_
  refine A_isub dX12_farOf_103 ?_
  refine A_imul dX12_farOf_104 ?_
  refine A_iload dX12_farOf_105 rfl ?_
  refine A_iadd dX12_farOf_107 ?_
  refine A_iconst (v := (1 : Int32)) dX12_farOf_108 oI_1 ?_
  refine A_isub dX12_farOf_109 ?_
  refine A_iald rfl dX12_farOf_110 (fun _ => ?_)
  refine A_iload dX12_farOf_111 rfl ?_
  refine A_if_eq (tgt := 120) dX12_farOf_113 (by decide) (fun _ => ?_) (fun _ => ?_)
  · refine A_iconst (v := (1 : Int32)) dX12_farOf_120 oI_1 ?_
    exact (a_X12_farOf_b121 (l := l) fu x1 x2 hk2 hk15 _ _ _ _ _ ).sub ⟨rfl, rfl, rfl, rfl, rfl, trivial⟩
  · refine A_iconst (v := (0 : Int32)) dX12_farOf_116 oI_0 ?_
    refine A_goto (tgt := 121) dX12_farOf_117 (by decide) ?_
    exact (a_X12_farOf_b121 (l := l) fu x1 x2 hk2 hk15 _ _ _ _ _ ).sub ⟨rfl, rfl, rfl, rfl, rfl, trivial⟩
def F_X12_farOf_b88 (fu : Nat)  (x1 : Int32) (x2 : Int32) (k2 : Int32 → xM → Option (Int32 × xM)) (k15 : Int32 → Int32 → xM → Option (Int32 × xM)) (x3 : Int32) (x4 : Int32) (M : xM) : Option (Int32 × xM) :=
  F_X12_farOf_b93 fu x1 x2 k2 k15 x3 x4 (1 : Int32) M
set_option maxRecDepth 100000 in
set_option maxHeartbeats 4000000 in
theorem a_X12_farOf_b88 {l : Launch} (fu : Nat) (x1 : Int32) (x2 : Int32)  {k2 : Int32 → xM → Option (Int32 × xM)} {k15 : Int32 → Int32 → xM → Option (Int32 × xM)} (hk2 : ∀ (b0 : Int32) (M : xM), AW SM l RX12 cX12_farOf 8 (some .int) 2 ki (k2 b0 M) 2 [some (xr 0), some (xi x1), some (xi x2), some (xi b0), none, none, none, none] [] M) (hk15 : ∀ (b0 : Int32) (b1 : Int32) (M : xM), AW SM l RX12 cX12_farOf 8 (some .int) 2 ki (k15 b0 b1 M) 15 [some (xr 0), some (xi x1), some (xi x2), some (xi b0), some (xi b1), none, none, none] [] M) (x3 : Int32) (x4 : Int32) (M : xM)  : AW SM l RX12 cX12_farOf 8 (some .int) 2 ki (F_X12_farOf_b88 fu x1 x2 k2 k15 x3 x4 M) 88 [some (xr 0), some (xi x1), some (xi x2), some (xi x3), some (xi x4), none, none, none] [] M := by
  unfold F_X12_farOf_b88
  refine A_iconst (v := (1 : Int32)) dX12_farOf_88 oI_1 ?_
  refine A_goto (tgt := 93) dX12_farOf_89 (by decide) ?_
  exact (a_X12_farOf_b93 (l := l) fu x1 x2 hk2 hk15 _ _ _ _ ).sub ⟨rfl, rfl, rfl, rfl, rfl, trivial⟩
def F_X12_farOf_b36 (fu : Nat)  (x1 : Int32) (x2 : Int32) (k2 : Int32 → xM → Option (Int32 × xM)) (k15 : Int32 → Int32 → xM → Option (Int32 × xM)) (x3 : Int32) (x4 : Int32) (s0 : Int32) (M : xM) : Option (Int32 × xM) :=
  (if x3 ≤ 0 then
  F_X12_farOf_b164 fu x1 x2 k2 k15 x3 x4 s0 M
  else
  (if x4 ≤ 0 then
  F_X12_farOf_b164 fu x1 x2 k2 k15 x3 x4 s0 M
  else
  (if ((((8 : Int32) * x1) + x3) - (1 : Int32)) < 0 ∨ 960 ≤ ((((8 : Int32) * x1) + x3) - (1 : Int32)).toNatClampNeg then none else
  (if (M 32 ((((8 : Int32) * x1) + x3) - (1 : Int32)).toNatClampNeg) = (46 : Int32) then
  F_X12_farOf_b88 fu x1 x2 k2 k15 x3 x4 M
  else
  (if ((((8 : Int32) * x2) + x4) - (1 : Int32)) < 0 ∨ 64 ≤ ((((8 : Int32) * x2) + x4) - (1 : Int32)).toNatClampNeg then none else
  (if (M 32 ((((8 : Int32) * x1) + x3) - (1 : Int32)).toNatClampNeg) = (M 31 ((((8 : Int32) * x2) + x4) - (1 : Int32)).toNatClampNeg) then
  F_X12_farOf_b88 fu x1 x2 k2 k15 x3 x4 M
  else
  F_X12_farOf_b93 fu x1 x2 k2 k15 x3 x4 (0 : Int32) M))))))
set_option maxRecDepth 100000 in
set_option maxHeartbeats 4000000 in
theorem a_X12_farOf_b36 {l : Launch} (fu : Nat) (x1 : Int32) (x2 : Int32)  {k2 : Int32 → xM → Option (Int32 × xM)} {k15 : Int32 → Int32 → xM → Option (Int32 × xM)} (hk2 : ∀ (b0 : Int32) (M : xM), AW SM l RX12 cX12_farOf 8 (some .int) 2 ki (k2 b0 M) 2 [some (xr 0), some (xi x1), some (xi x2), some (xi b0), none, none, none, none] [] M) (hk15 : ∀ (b0 : Int32) (b1 : Int32) (M : xM), AW SM l RX12 cX12_farOf 8 (some .int) 2 ki (k15 b0 b1 M) 15 [some (xr 0), some (xi x1), some (xi x2), some (xi b0), some (xi b1), none, none, none] [] M) (x3 : Int32) (x4 : Int32) (s0 : Int32) (M : xM)  : AW SM l RX12 cX12_farOf 8 (some .int) 2 ki (F_X12_farOf_b36 fu x1 x2 k2 k15 x3 x4 s0 M) 36 [some (xr 0), some (xi x1), some (xi x2), some (xi x3), some (xi x4), none, none, none] [xi s0] M := by
  unfold F_X12_farOf_b36
  refine A_istore dX12_farOf_36 (Nat.le_of_ble_eq_true rfl) rfl ?_
  refine A_iload_n dX12_farOf_38 rfl ?_
  refine A_if_le (tgt := 164) dX12_farOf_39 (by decide) (fun _ => ?_) (fun _ => ?_)
  · exact (a_X12_farOf_b164 (l := l) fu x1 x2 hk2 hk15 _ _ _ _ ).sub ⟨rfl, rfl, rfl, rfl, rfl, rfl, trivial⟩
  · refine A_iload dX12_farOf_42 rfl ?_
    refine A_if_le (tgt := 164) dX12_farOf_44 (by decide) (fun _ => ?_) (fun _ => ?_)
    · exact (a_X12_farOf_b164 (l := l) fu x1 x2 hk2 hk15 _ _ _ _ ).sub ⟨rfl, rfl, rfl, rfl, rfl, rfl, trivial⟩
    · refine A_aload_n dX12_farOf_47 rfl ?_
      refine A_getr lf_X12_123 rfl rfl dX12_farOf_48 ?_
      refine A_bipush (v := (8 : Int32)) dX12_farOf_51 oB_8 ?_
      refine A_iload_n dX12_farOf_53 rfl ?_
      refine A_imul dX12_farOf_54 ?_
      refine A_iload_n dX12_farOf_55 rfl ?_
      refine A_iadd dX12_farOf_56 ?_
      refine A_iconst (v := (1 : Int32)) dX12_farOf_57 oI_1 ?_
      refine A_isub dX12_farOf_58 ?_
      refine A_bald rfl dX12_farOf_59 (fun _ => ?_)
      refine A_istore dX12_farOf_60 (Nat.le_of_ble_eq_true rfl) rfl ?_
      refine A_iload dX12_farOf_62 rfl ?_
      refine A_bipush (v := (46 : Int32)) dX12_farOf_64 oB_46 ?_
      refine A_icmp_eq (tgt := 88) dX12_farOf_66 (by decide) (fun _ => ?_) (fun _ => ?_)
      · exact (a_X12_farOf_b88 (l := l) fu x1 x2 hk2 hk15 _ _ _ ).sub ⟨rfl, rfl, rfl, rfl, rfl, trivial⟩
      · refine A_iload dX12_farOf_69 rfl ?_
        refine A_aload_n dX12_farOf_71 rfl ?_
        refine A_getr lf_X12_120 rfl rfl dX12_farOf_72 ?_
        refine A_bipush (v := (8 : Int32)) dX12_farOf_75 oB_8 ?_
        refine A_iload_n dX12_farOf_77 rfl ?_
        refine A_imul dX12_farOf_78 ?_
        refine A_iload dX12_farOf_79 rfl ?_
        refine A_iadd dX12_farOf_81 ?_
        refine A_iconst (v := (1 : Int32)) dX12_farOf_82 oI_1 ?_
        refine A_isub dX12_farOf_83 ?_
        refine A_bald rfl dX12_farOf_84 (fun _ => ?_)
        refine A_icmp_ne (tgt := 92) dX12_farOf_85 (by decide) (fun _ => ?_) (fun _ => ?_)
        · exact (a_X12_farOf_b88 (l := l) fu x1 x2 hk2 hk15 _ _ _ ).sub ⟨rfl, rfl, rfl, rfl, rfl, trivial⟩
        · refine A_iconst (v := (0 : Int32)) dX12_farOf_92 oI_0 ?_
          exact (a_X12_farOf_b93 (l := l) fu x1 x2 hk2 hk15 _ _ _ _ ).sub ⟨rfl, rfl, rfl, rfl, rfl, trivial⟩
def F_X12_farOf_b15 (fu : Nat)  (x1 : Int32) (x2 : Int32) (k2 : Int32 → xM → Option (Int32 × xM)) : Nat → Int32 → Int32 → xM → Option (Int32 × xM)
  | 0, _, _, _ => none
  | n + 1, x3, x4, M =>
    (if x2 < 0 ∨ 8 ≤ x2.toNatClampNeg then none else
    (if (M 33 x2.toNatClampNeg) < x4 then
    k2 (x3 + (1 : Int32)) M
    else
    (if x3 = 0 then
    F_X12_farOf_b36 fu x1 x2 k2 (F_X12_farOf_b15 fu x1 x2 k2 n) x3 x4 x4 M
    else
    F_X12_farOf_b36 fu x1 x2 k2 (F_X12_farOf_b15 fu x1 x2 k2 n) x3 x4 x3 M)))
set_option maxRecDepth 100000 in
set_option maxHeartbeats 4000000 in
theorem a_X12_farOf_b15 {l : Launch} (fu : Nat) (x1 : Int32) (x2 : Int32)  {k2 : Int32 → xM → Option (Int32 × xM)} (hk2 : ∀ (b0 : Int32) (M : xM), AW SM l RX12 cX12_farOf 8 (some .int) 2 ki (k2 b0 M) 2 [some (xr 0), some (xi x1), some (xi x2), some (xi b0), none, none, none, none] [] M) : ∀ (n : Nat) (x3 : Int32) (x4 : Int32) (M : xM), AW SM l RX12 cX12_farOf 8 (some .int) 2 ki (F_X12_farOf_b15 fu x1 x2 k2 n x3 x4 M) 15 [some (xr 0), some (xi x1), some (xi x2), some (xi x3), some (xi x4), none, none, none] [] M := by
  intro n
  induction n with
  | zero =>
    intro x3 x4 M
    exact AW.none
  | succ n ih =>
    intro x3 x4 M
    rw [F_X12_farOf_b15]
    refine A_iload dX12_farOf_15 rfl ?_
    refine A_aload_n dX12_farOf_17 rfl ?_
    refine A_getr lf_X12_126 rfl rfl dX12_farOf_18 ?_
    refine A_iload_n dX12_farOf_21 rfl ?_
    refine A_iald rfl dX12_farOf_22 (fun _ => ?_)
    refine A_icmp_gt (tgt := 184) dX12_farOf_23 (by decide) (fun _ => ?_) (fun _ => ?_)
    · refine A_iinc dX12_farOf_184 rfl oI_1 (Nat.le_of_ble_eq_true rfl) rfl ?_
      refine A_goto (tgt := 2) dX12_farOf_187 (by decide) ?_
      exact (hk2 _ _).sub ⟨rfl, rfl, rfl, rfl, trivial⟩
    · refine A_iload_n dX12_farOf_26 rfl ?_
      refine A_if_ne (tgt := 35) dX12_farOf_27 (by decide) (fun _ => ?_) (fun _ => ?_)
      · refine A_iload dX12_farOf_30 rfl ?_
        refine A_goto (tgt := 36) dX12_farOf_32 (by decide) ?_
        exact (a_X12_farOf_b36 (l := l) fu x1 x2 hk2 ih _ _ _ _ ).sub ⟨rfl, rfl, rfl, rfl, rfl, trivial⟩
      · refine A_iload_n dX12_farOf_35 rfl ?_
        exact (a_X12_farOf_b36 (l := l) fu x1 x2 hk2 ih _ _ _ _ ).sub ⟨rfl, rfl, rfl, rfl, rfl, trivial⟩
def F_X12_farOf_b2 (fu : Nat)  (x1 : Int32) (x2 : Int32)  : Nat → Int32 → xM → Option (Int32 × xM)
  | 0, _, _ => none
  | n + 1, x3, M =>
    (if x1 < 0 ∨ 120 ≤ x1.toNatClampNeg then none else
    (if (M 34 x1.toNatClampNeg) < x3 then
    (if x1 < 0 ∨ 120 ≤ x1.toNatClampNeg then none else
    (if x2 < 0 ∨ 8 ≤ x2.toNatClampNeg then none else
    (if (((9 : Int32) * (M 34 x1.toNatClampNeg)) + (M 33 x2.toNatClampNeg)) < 0 ∨ 81 ≤ (((9 : Int32) * (M 34 x1.toNatClampNeg)) + (M 33 x2.toNatClampNeg)).toNatClampNeg then none else
    some ((M 35 (((9 : Int32) * (M 34 x1.toNatClampNeg)) + (M 33 x2.toNatClampNeg)).toNatClampNeg), M))))
    else
    F_X12_farOf_b15 fu x1 x2 (F_X12_farOf_b2 fu x1 x2 n) fu x3 (0 : Int32) M))
set_option maxRecDepth 100000 in
set_option maxHeartbeats 4000000 in
theorem a_X12_farOf_b2 {l : Launch} (fu : Nat) (x1 : Int32) (x2 : Int32)    : ∀ (n : Nat) (x3 : Int32) (M : xM), AW SM l RX12 cX12_farOf 8 (some .int) 2 ki (F_X12_farOf_b2 fu x1 x2 n x3 M) 2 [some (xr 0), some (xi x1), some (xi x2), some (xi x3), none, none, none, none] [] M := by
  intro n
  induction n with
  | zero =>
    intro x3 M
    exact AW.none
  | succ n ih =>
    intro x3 M
    rw [F_X12_farOf_b2]
    refine A_iload_n dX12_farOf_2 rfl ?_
    refine A_aload_n dX12_farOf_3 rfl ?_
    refine A_getr lf_X12_129 rfl rfl dX12_farOf_4 ?_
    refine A_iload_n dX12_farOf_7 rfl ?_
    refine A_iald rfl dX12_farOf_8 (fun _ => ?_)
    refine A_icmp_gt (tgt := 190) dX12_farOf_9 (by decide) (fun _ => ?_) (fun _ => ?_)
    · refine A_aload_n dX12_farOf_190 rfl ?_
      refine A_getr lf_X12_135 rfl rfl dX12_farOf_191 ?_
      refine A_bipush (v := (9 : Int32)) dX12_farOf_194 oB_9 ?_
      refine A_aload_n dX12_farOf_196 rfl ?_
      refine A_getr lf_X12_129 rfl rfl dX12_farOf_197 ?_
      refine A_iload_n dX12_farOf_200 rfl ?_
      refine A_iald rfl dX12_farOf_201 (fun _ => ?_)
      refine A_imul dX12_farOf_202 ?_
      refine A_aload_n dX12_farOf_203 rfl ?_
      refine A_getr lf_X12_126 rfl rfl dX12_farOf_204 ?_
      refine A_iload_n dX12_farOf_207 rfl ?_
      refine A_iald rfl dX12_farOf_208 (fun _ => ?_)
      refine A_iadd dX12_farOf_209 ?_
      refine A_iald rfl dX12_farOf_210 (fun _ => ?_)
      exact A_iret rfl dX12_farOf_211
    · refine A_iconst (v := (0 : Int32)) dX12_farOf_12 oI_0 ?_
      refine A_istore dX12_farOf_13 (Nat.le_of_ble_eq_true rfl) rfl ?_
      exact (a_X12_farOf_b15 (l := l) fu x1 x2 ih fu _ _ _).sub ⟨rfl, rfl, rfl, rfl, rfl, trivial⟩
def F_X12_farOf (fu : Nat)  (x1 : Int32) (x2 : Int32)   (M : xM) : Option (Int32 × xM) :=
  F_X12_farOf_b2 fu x1 x2 fu (0 : Int32) M
set_option maxRecDepth 100000 in
set_option maxHeartbeats 4000000 in
theorem w_X12_farOf {l : Launch} (fu : Nat) (x1 : Int32) (x2 : Int32)     (M : xM)  : AW SM l RX12 cX12_farOf 8 (some .int) 2 ki (F_X12_farOf fu x1 x2  M) 0 [some (xr 0), some (xi x1), some (xi x2), none, none, none, none, none] [] M := by
  unfold F_X12_farOf
  refine A_iconst (v := (0 : Int32)) dX12_farOf_0 oI_0 ?_
  refine A_istore_n dX12_farOf_1 (Nat.le_of_ble_eq_true rfl) rfl ?_
  exact (a_X12_farOf_b2 (l := l) fu x1 x2  fu _ _).sub ⟨rfl, rfl, rfl, rfl, trivial⟩
theorem a_X12_farOf {l : Launch} (fu : Nat)  (x1 : Int32) (x2 : Int32) (M : xM)  : AM SM l yX12_farOf cX12_farOf 8 (some .int) 2 ki [xr 0, xi x1, xi x2] M (F_X12_farOf fu x1 x2  M) :=
  AM.of (L0 := [some (xr 0), some (xi x1), some (xi x2), none, none, none, none, none]) (w_X12_farOf (l := l) fu x1 x2  M ) (by decide +kernel) rfl (Nat.le_of_ble_eq_true rfl) ⟨rfl, rfl, rfl, trivial⟩
def F_X12_isRead  (x1 : Int32) (x2 : Int32)   (M : xM) : Option (Int32 × xM) :=
  (if (P_X12_isIn x1 (0 : Int32) (3 : Int32) M) = 0 then
  some ((0 : Int32), M)
  else
  (if (P_X12_isPaper x2 M) = 0 then
  some ((0 : Int32), M)
  else
  (if (((30 : Int32) * x1) + x2) < 0 ∨ 120 ≤ (((30 : Int32) * x1) + x2).toNatClampNeg then none else
  (if (M 34 (((30 : Int32) * x1) + x2).toNatClampNeg) ≤ 0 then
  some ((0 : Int32), M)
  else
  some ((1 : Int32), M)))))
set_option maxRecDepth 100000 in
set_option maxHeartbeats 4000000 in
theorem w_X12_isRead {l : Launch} (x1 : Int32) (x2 : Int32)     (M : xM)  : AW SM l RX12 cX12_isRead 3 (some .boolean) 2 ki (F_X12_isRead x1 x2  M) 0 [some (xr 0), some (xi x1), some (xi x2)] [] M := by
  unfold F_X12_isRead
  refine A_iload_n dX12_isRead_0 rfl ?_
  refine A_iconst (v := (0 : Int32)) dX12_isRead_1 oI_0 ?_
  refine A_iconst (v := (3 : Int32)) dX12_isRead_2 oI_3 ?_
  refine A_callSp (a_X12_isIn (l := l) _ _ _ _ ) lc_X12_196 rfl (by decide) (Nat.le_of_ble_eq_true rfl) rfl dX12_isRead_3 ?_
  refine A_if_eq (tgt := 34) dX12_isRead_6 (by decide) (fun _ => ?_) (fun _ => ?_)
  · refine A_iconst (v := (0 : Int32)) dX12_isRead_34 oI_0 ?_
    exact A_zret' rfl (Or.inl rfl) dX12_isRead_35
  · refine A_iload_n dX12_isRead_9 rfl ?_
    refine A_callSp (a_X12_isPaper (l := l) _ _ ) lc_X12_462 rfl (by decide) (Nat.le_of_ble_eq_true rfl) rfl dX12_isRead_10 ?_
    refine A_if_eq (tgt := 34) dX12_isRead_13 (by decide) (fun _ => ?_) (fun _ => ?_)
    · refine A_iconst (v := (0 : Int32)) dX12_isRead_34 oI_0 ?_
      exact A_zret' rfl (Or.inl rfl) dX12_isRead_35
    · refine A_aload_n dX12_isRead_16 rfl ?_
      refine A_getr lf_X12_129 rfl rfl dX12_isRead_17 ?_
      refine A_bipush (v := (30 : Int32)) dX12_isRead_20 oB_30 ?_
      refine A_iload_n dX12_isRead_22 rfl ?_
      refine A_imul dX12_isRead_23 ?_
      refine A_iload_n dX12_isRead_24 rfl ?_
      refine A_iadd dX12_isRead_25 ?_
      refine A_iald rfl dX12_isRead_26 (fun _ => ?_)
      refine A_if_le (tgt := 34) dX12_isRead_27 (by decide) (fun _ => ?_) (fun _ => ?_)
      · refine A_iconst (v := (0 : Int32)) dX12_isRead_34 oI_0 ?_
        exact A_zret' rfl (Or.inl rfl) dX12_isRead_35
      · refine A_iconst (v := (1 : Int32)) dX12_isRead_30 oI_1 ?_
        refine A_goto (tgt := 35) dX12_isRead_31 (by decide) ?_
        exact A_zret' rfl (Or.inr rfl) dX12_isRead_35
theorem a_X12_isRead {l : Launch}  (x1 : Int32) (x2 : Int32) (M : xM)  : AM SM l yX12_isRead cX12_isRead 3 (some .boolean) 2 ki [xr 0, xi x1, xi x2] M (F_X12_isRead  x1 x2  M) :=
  AM.of (L0 := [some (xr 0), some (xi x1), some (xi x2)]) (w_X12_isRead (l := l) x1 x2  M ) (by decide +kernel) rfl (Nat.le_of_ble_eq_true rfl) ⟨rfl, rfl, rfl, trivial⟩
def F_X12_far (fu : Nat)  (x1 : Int32) (x2 : Int32) (x3 : Int32)   (M : xM) : Option (Int32 × xM) :=
  (F_X12_isRead x1 x2 (xset M 0 0 (0 : Int32))).bind fun q1 =>
  (if q1.1 = 0 then
  some ((-1 : Int32), q1.2)
  else
  (if (P_X12_isIn x3 (0 : Int32) ((q1.2 0 58) - (1 : Int32)) q1.2) = 0 then
  some ((-1 : Int32), q1.2)
  else
  (F_X12_farOf fu (((30 : Int32) * x1) + x2) x3 q1.2).bind fun q2 =>
  some (q2.1, q2.2)))
set_option maxRecDepth 100000 in
set_option maxHeartbeats 4000000 in
theorem w_X12_far {l : Launch} (fu : Nat) (x1 : Int32) (x2 : Int32) (x3 : Int32)     (M : xM)  : AW SM l RX12 cX12_far 4 (some .int) 3 ki (F_X12_far fu x1 x2 x3  M) 0 [some (xr 0), some (xi x1), some (xi x2), some (xi x3)] [] M := by
  unfold F_X12_far
  refine A_aload_n dX12_far_0 rfl ?_
  refine A_iconst (v := (0 : Int32)) dX12_far_1 oI_0 ?_
  refine A_puti lf_X12_180 rfl rfl dX12_far_2 ?_
  refine A_aload_n dX12_far_5 rfl ?_
  refine A_iload_n dX12_far_6 rfl ?_
  refine A_iload_n dX12_far_7 rfl ?_
  refine A_callVi (a_X12_isRead (l := l) _ _ _ ) lc_X12_465 rfl rfl (by decide) (Nat.le_of_ble_eq_true rfl) rfl dX12_far_8 (fun q1 Mq1 hq1 => ?_)
  refine A_if_eq (tgt := 42) dX12_far_11 (by decide) (fun _ => ?_) (fun _ => ?_)
  · refine A_iconst (v := (-1 : Int32)) dX12_far_42 oI_m1 ?_
    exact A_iret rfl dX12_far_43
  · refine A_iload_n dX12_far_14 rfl ?_
    refine A_iconst (v := (0 : Int32)) dX12_far_15 oI_0 ?_
    refine A_aload_n dX12_far_16 rfl ?_
    refine A_geti lf_X12_452 rfl rfl dX12_far_17 ?_
    refine A_iconst (v := (1 : Int32)) dX12_far_20 oI_1 ?_
    refine A_isub dX12_far_21 ?_
    refine A_callSp (a_X12_isIn (l := l) _ _ _ _ ) lc_X12_196 rfl (by decide) (Nat.le_of_ble_eq_true rfl) rfl dX12_far_22 ?_
    refine A_if_eq (tgt := 42) dX12_far_25 (by decide) (fun _ => ?_) (fun _ => ?_)
    · refine A_iconst (v := (-1 : Int32)) dX12_far_42 oI_m1 ?_
      exact A_iret rfl dX12_far_43
    · refine A_aload_n dX12_far_28 rfl ?_
      refine A_bipush (v := (30 : Int32)) dX12_far_29 oB_30 ?_
      refine A_iload_n dX12_far_31 rfl ?_
      refine A_imul dX12_far_32 ?_
      refine A_iload_n dX12_far_33 rfl ?_
      refine A_iadd dX12_far_34 ?_
      refine A_iload_n dX12_far_35 rfl ?_
      refine A_callVi (a_X12_farOf (l := l) fu _ _ _ ) lc_X12_468 rfl rfl (by decide) (Nat.le_of_ble_eq_true rfl) rfl dX12_far_36 (fun q2 Mq2 hq2 => ?_)
      refine A_goto (tgt := 43) dX12_far_39 (by decide) ?_
      exact A_iret rfl dX12_far_43
theorem a_X12_far {l : Launch} (fu : Nat)  (x1 : Int32) (x2 : Int32) (x3 : Int32) (M : xM)  : AM SM l yX12_far cX12_far 4 (some .int) 3 ki [xr 0, xi x1, xi x2, xi x3] M (F_X12_far fu x1 x2 x3  M) :=
  AM.of (L0 := [some (xr 0), some (xi x1), some (xi x2), some (xi x3)]) (w_X12_far (l := l) fu x1 x2 x3  M ) (by decide +kernel) rfl (Nat.le_of_ble_eq_true rfl) ⟨rfl, rfl, rfl, rfl, trivial⟩
def F_X12_goesOf_b66 (fu : Nat)  (x1 : Int32) (k37 : Int32 → Int32 → Int32 → xM → Option (Int32 × xM)) (x2 : Int32) (x4 : Int32) (s0 : Int32) (s1 : Int32) (M : xM) : Option (Int32 × xM) :=
  k37 x2 (s1 ||| s0) (x4 + (1 : Int32)) M
set_option maxRecDepth 100000 in
set_option maxHeartbeats 4000000 in
theorem a_X12_goesOf_b66 {l : Launch} (fu : Nat) (x1 : Int32)  {k37 : Int32 → Int32 → Int32 → xM → Option (Int32 × xM)} (hk37 : ∀ (b0 : Int32) (b1 : Int32) (b2 : Int32) (M : xM), AW SM l RX12 cX12_goesOf 5 (some .int) 3 ki (k37 b0 b1 b2 M) 37 [some (xr 0), some (xi x1), some (xi b0), some (xi b1), some (xi b2)] [] M) (x2 : Int32) (x4 : Int32) (s0 : Int32) (s1 : Int32) (M : xM)  : AW SM l RX12 cX12_goesOf 5 (some .int) 3 ki (F_X12_goesOf_b66 fu x1 k37 x2 x4 s0 s1 M) 66 [some (xr 0), some (xi x1), some (xi x2), none, some (xi x4)] [xi s0, xi s1] M := by
  unfold F_X12_goesOf_b66
  refine A_ior dX12_goesOf_66 ?_
  refine A_istore_n dX12_goesOf_67 (Nat.le_of_ble_eq_true rfl) rfl ?_
  refine A_iinc dX12_goesOf_68 rfl oI_1 (Nat.le_of_ble_eq_true rfl) rfl ?_
  refine A_goto (tgt := 37) dX12_goesOf_71 (by decide) ?_
  exact (hk37 _ _ _ _).sub ⟨rfl, rfl, rfl, rfl, rfl, trivial⟩
def F_X12_goesOf_b37 (fu : Nat)  (x1 : Int32)  : Nat → Int32 → Int32 → Int32 → xM → Option (Int32 × xM)
  | 0, _, _, _, _ => none
  | n + 1, x2, x3, x4, M =>
    (if (M 0 58) ≤ x4 then
    some (x3, M)
    else
    (F_X12_farOf fu x1 x4 M).bind fun q1 =>
    (if q1.1 = x2 then
    F_X12_goesOf_b66 fu x1 (F_X12_goesOf_b37 fu x1 n) x2 x4 ((1 : Int32) <<< (x4 &&& 31)) x3 q1.2
    else
    F_X12_goesOf_b66 fu x1 (F_X12_goesOf_b37 fu x1 n) x2 x4 (0 : Int32) x3 q1.2))
set_option maxRecDepth 100000 in
set_option maxHeartbeats 4000000 in
theorem a_X12_goesOf_b37 {l : Launch} (fu : Nat) (x1 : Int32)    : ∀ (n : Nat) (x2 : Int32) (x3 : Int32) (x4 : Int32) (M : xM), AW SM l RX12 cX12_goesOf 5 (some .int) 3 ki (F_X12_goesOf_b37 fu x1 n x2 x3 x4 M) 37 [some (xr 0), some (xi x1), some (xi x2), some (xi x3), some (xi x4)] [] M := by
  intro n
  induction n with
  | zero =>
    intro x2 x3 x4 M
    exact AW.none
  | succ n ih =>
    intro x2 x3 x4 M
    rw [F_X12_goesOf_b37]
    refine A_iload dX12_goesOf_37 rfl ?_
    refine A_aload_n dX12_goesOf_39 rfl ?_
    refine A_geti lf_X12_452 rfl rfl dX12_goesOf_40 ?_
    refine A_icmp_ge (tgt := 74) dX12_goesOf_43 (by decide) (fun _ => ?_) (fun _ => ?_)
    · refine A_iload_n dX12_goesOf_74 rfl ?_
      exact A_iret rfl dX12_goesOf_75
    · refine A_iload_n dX12_goesOf_46 rfl ?_
      refine A_aload_n dX12_goesOf_47 rfl ?_
      refine A_iload_n dX12_goesOf_48 rfl ?_
      refine A_iload dX12_goesOf_49 rfl ?_
      refine A_callVi (a_X12_farOf (l := l) fu _ _ _ ) lc_X12_468 rfl rfl (by decide) (Nat.le_of_ble_eq_true rfl) rfl dX12_goesOf_51 (fun q1 Mq1 hq1 => ?_)
      refine A_iload_n dX12_goesOf_54 rfl ?_
      refine A_icmp_ne (tgt := 65) dX12_goesOf_55 (by decide) (fun _ => ?_) (fun _ => ?_)
      · refine A_iconst (v := (1 : Int32)) dX12_goesOf_58 oI_1 ?_
        refine A_iload dX12_goesOf_59 rfl ?_
        refine A_ishl dX12_goesOf_61 ?_
        refine A_goto (tgt := 66) dX12_goesOf_62 (by decide) ?_
        exact (a_X12_goesOf_b66 (l := l) fu x1 ih _ _ _ _ _ ).sub ⟨rfl, rfl, rfl, rfl, trivial⟩
      · refine A_iconst (v := (0 : Int32)) dX12_goesOf_65 oI_0 ?_
        exact (a_X12_goesOf_b66 (l := l) fu x1 ih _ _ _ _ _ ).sub ⟨rfl, rfl, rfl, rfl, trivial⟩
def F_X12_goesOf_b7 (fu : Nat)  (x1 : Int32)  : Nat → Int32 → Int32 → xM → Option (Int32 × xM)
  | 0, _, _, _ => none
  | n + 1, x2, x3, M =>
    (if (M 0 58) ≤ x3 then
    F_X12_goesOf_b37 fu x1 fu x2 (0 : Int32) (0 : Int32) M
    else
    (F_X12_farOf fu x1 x3 M).bind fun q1 =>
    F_X12_goesOf_b7 fu x1 n (jmin x2 q1.1) (x3 + (1 : Int32)) q1.2)
set_option maxRecDepth 100000 in
set_option maxHeartbeats 4000000 in
theorem a_X12_goesOf_b7 {l : Launch} (fu : Nat) (x1 : Int32)    : ∀ (n : Nat) (x2 : Int32) (x3 : Int32) (M : xM), AW SM l RX12 cX12_goesOf 5 (some .int) 3 ki (F_X12_goesOf_b7 fu x1 n x2 x3 M) 7 [some (xr 0), some (xi x1), some (xi x2), some (xi x3), none] [] M := by
  intro n
  induction n with
  | zero =>
    intro x2 x3 M
    exact AW.none
  | succ n ih =>
    intro x2 x3 M
    rw [F_X12_goesOf_b7]
    refine A_iload_n dX12_goesOf_7 rfl ?_
    refine A_aload_n dX12_goesOf_8 rfl ?_
    refine A_geti lf_X12_452 rfl rfl dX12_goesOf_9 ?_
    refine A_icmp_ge (tgt := 32) dX12_goesOf_12 (by decide) (fun _ => ?_) (fun _ => ?_)
    · refine A_iconst (v := (0 : Int32)) dX12_goesOf_32 oI_0 ?_
      refine A_istore_n dX12_goesOf_33 (Nat.le_of_ble_eq_true rfl) rfl ?_
      refine A_iconst (v := (0 : Int32)) dX12_goesOf_34 oI_0 ?_
      refine A_istore dX12_goesOf_35 (Nat.le_of_ble_eq_true rfl) rfl ?_
      exact (a_X12_goesOf_b37 (l := l) fu x1  fu _ _ _ _).sub ⟨rfl, rfl, rfl, rfl, rfl, trivial⟩
    · refine A_iload_n dX12_goesOf_15 rfl ?_
      refine A_aload_n dX12_goesOf_16 rfl ?_
      refine A_iload_n dX12_goesOf_17 rfl ?_
      refine A_iload_n dX12_goesOf_18 rfl ?_
      refine A_callVi (a_X12_farOf (l := l) fu _ _ _ ) lc_X12_468 rfl rfl (by decide) (Nat.le_of_ble_eq_true rfl) rfl dX12_goesOf_19 (fun q1 Mq1 hq1 => ?_)
      refine A_jmin lc_X12_168 (by decide) (Nat.le_of_ble_eq_true rfl) dX12_goesOf_22 ?_
      refine A_istore_n dX12_goesOf_25 (Nat.le_of_ble_eq_true rfl) rfl ?_
      refine A_iinc dX12_goesOf_26 rfl oI_1 (Nat.le_of_ble_eq_true rfl) rfl ?_
      refine A_goto (tgt := 7) dX12_goesOf_29 (by decide) ?_
      exact (ih _ _ _).sub ⟨rfl, rfl, rfl, rfl, trivial⟩
def F_X12_goesOf (fu : Nat)  (x1 : Int32)   (M : xM) : Option (Int32 × xM) :=
  F_X12_goesOf_b7 fu x1 fu (M 0 59) (0 : Int32) M
set_option maxRecDepth 100000 in
set_option maxHeartbeats 4000000 in
theorem w_X12_goesOf {l : Launch} (fu : Nat) (x1 : Int32)     (M : xM)  : AW SM l RX12 cX12_goesOf 5 (some .int) 3 ki (F_X12_goesOf fu x1  M) 0 [some (xr 0), some (xi x1), none, none, none] [] M := by
  unfold F_X12_goesOf
  refine A_aload_n dX12_goesOf_0 rfl ?_
  refine A_geti lf_X12_132 rfl rfl dX12_goesOf_1 ?_
  refine A_istore_n dX12_goesOf_4 (Nat.le_of_ble_eq_true rfl) rfl ?_
  refine A_iconst (v := (0 : Int32)) dX12_goesOf_5 oI_0 ?_
  refine A_istore_n dX12_goesOf_6 (Nat.le_of_ble_eq_true rfl) rfl ?_
  exact (a_X12_goesOf_b7 (l := l) fu x1  fu _ _ _).sub ⟨rfl, rfl, rfl, rfl, trivial⟩
theorem a_X12_goesOf {l : Launch} (fu : Nat)  (x1 : Int32) (M : xM)  : AM SM l yX12_goesOf cX12_goesOf 5 (some .int) 3 ki [xr 0, xi x1] M (F_X12_goesOf fu x1  M) :=
  AM.of (L0 := [some (xr 0), some (xi x1), none, none, none]) (w_X12_goesOf (l := l) fu x1  M ) (by decide +kernel) rfl (Nat.le_of_ble_eq_true rfl) ⟨rfl, rfl, trivial⟩
def F_X12_goes (fu : Nat)  (x1 : Int32) (x2 : Int32)   (M : xM) : Option (Int32 × xM) :=
  (F_X12_isRead x1 x2 (xset M 0 0 (0 : Int32))).bind fun q1 =>
  (if q1.1 = 0 then
  some ((-1 : Int32), q1.2)
  else
  (F_X12_goesOf fu (((30 : Int32) * x1) + x2) q1.2).bind fun q2 =>
  some (q2.1, q2.2))
set_option maxRecDepth 100000 in
set_option maxHeartbeats 4000000 in
theorem w_X12_goes {l : Launch} (fu : Nat) (x1 : Int32) (x2 : Int32)     (M : xM)  : AW SM l RX12 cX12_goes 3 (some .int) 4 ki (F_X12_goes fu x1 x2  M) 0 [some (xr 0), some (xi x1), some (xi x2)] [] M := by
  unfold F_X12_goes
  refine A_aload_n dX12_goes_0 rfl ?_
  refine A_iconst (v := (0 : Int32)) dX12_goes_1 oI_0 ?_
  refine A_puti lf_X12_180 rfl rfl dX12_goes_2 ?_
  refine A_aload_n dX12_goes_5 rfl ?_
  refine A_iload_n dX12_goes_6 rfl ?_
  refine A_iload_n dX12_goes_7 rfl ?_
  refine A_callVi (a_X12_isRead (l := l) _ _ _ ) lc_X12_465 rfl rfl (by decide) (Nat.le_of_ble_eq_true rfl) rfl dX12_goes_8 (fun q1 Mq1 hq1 => ?_)
  refine A_if_eq (tgt := 27) dX12_goes_11 (by decide) (fun _ => ?_) (fun _ => ?_)
  · refine A_iconst (v := (-1 : Int32)) dX12_goes_27 oI_m1 ?_
    exact A_iret rfl dX12_goes_28
  · refine A_aload_n dX12_goes_14 rfl ?_
    refine A_bipush (v := (30 : Int32)) dX12_goes_15 oB_30 ?_
    refine A_iload_n dX12_goes_17 rfl ?_
    refine A_imul dX12_goes_18 ?_
    refine A_iload_n dX12_goes_19 rfl ?_
    refine A_iadd dX12_goes_20 ?_
    refine A_callVi (a_X12_goesOf (l := l) fu _ _ ) lc_X12_471 rfl rfl (by decide) (Nat.le_of_ble_eq_true rfl) rfl dX12_goes_21 (fun q2 Mq2 hq2 => ?_)
    refine A_goto (tgt := 28) dX12_goes_24 (by decide) ?_
    exact A_iret rfl dX12_goes_28
theorem a_X12_goes {l : Launch} (fu : Nat)  (x1 : Int32) (x2 : Int32) (M : xM)  : AM SM l yX12_goes cX12_goes 3 (some .int) 4 ki [xr 0, xi x1, xi x2] M (F_X12_goes fu x1 x2  M) :=
  AM.of (L0 := [some (xr 0), some (xi x1), some (xi x2)]) (w_X12_goes (l := l) fu x1 x2  M ) (by decide +kernel) rfl (Nat.le_of_ble_eq_true rfl) ⟨rfl, rfl, rfl, trivial⟩
def F_X12_isAnyRead_b2 (fu : Nat)  (x1 : Int32)  : Nat → Int32 → xM → Option (Int32 × xM)
  | 0, _, _ => none
  | n + 1, x2, M =>
    (if (4 : Int32) ≤ x2 then
    some ((0 : Int32), M)
    else
    (F_X12_isRead x2 x1 M).bind fun q1 =>
    (if q1.1 = 0 then
    F_X12_isAnyRead_b2 fu x1 n (x2 + (1 : Int32)) q1.2
    else
    some ((1 : Int32), q1.2)))
set_option maxRecDepth 100000 in
set_option maxHeartbeats 4000000 in
theorem a_X12_isAnyRead_b2 {l : Launch} (fu : Nat) (x1 : Int32)    : ∀ (n : Nat) (x2 : Int32) (M : xM), AW SM l RX12 cX12_isAnyRead 3 (some .boolean) 3 ki (F_X12_isAnyRead_b2 fu x1 n x2 M) 2 [some (xr 0), some (xi x1), some (xi x2)] [] M := by
  intro n
  induction n with
  | zero =>
    intro x2 M
    exact AW.none
  | succ n ih =>
    intro x2 M
    rw [F_X12_isAnyRead_b2]
    refine A_iload_n dX12_isAnyRead_2 rfl ?_
    refine A_iconst (v := (4 : Int32)) dX12_isAnyRead_3 oI_4 ?_
    refine A_icmp_ge (tgt := 24) dX12_isAnyRead_4 (by decide) (fun _ => ?_) (fun _ => ?_)
    · refine A_iconst (v := (0 : Int32)) dX12_isAnyRead_24 oI_0 ?_
      exact A_zret' rfl (Or.inl rfl) dX12_isAnyRead_25
    · refine A_aload_n dX12_isAnyRead_7 rfl ?_
      refine A_iload_n dX12_isAnyRead_8 rfl ?_
      refine A_iload_n dX12_isAnyRead_9 rfl ?_
      refine A_callVi (a_X12_isRead (l := l) _ _ _ ) lc_X12_465 rfl rfl (by decide) (Nat.le_of_ble_eq_true rfl) rfl dX12_isAnyRead_10 (fun q1 Mq1 hq1 => ?_)
      refine A_if_eq (tgt := 18) dX12_isAnyRead_13 (by decide) (fun _ => ?_) (fun _ => ?_)
      · refine A_iinc dX12_isAnyRead_18 rfl oI_1 (Nat.le_of_ble_eq_true rfl) rfl ?_
        refine A_goto (tgt := 2) dX12_isAnyRead_21 (by decide) ?_
        exact (ih _ _).sub ⟨rfl, rfl, rfl, trivial⟩
      · refine A_iconst (v := (1 : Int32)) dX12_isAnyRead_16 oI_1 ?_
        exact A_zret' rfl (Or.inr rfl) dX12_isAnyRead_17
def F_X12_isAnyRead (fu : Nat)  (x1 : Int32)   (M : xM) : Option (Int32 × xM) :=
  F_X12_isAnyRead_b2 fu x1 fu (0 : Int32) M
set_option maxRecDepth 100000 in
set_option maxHeartbeats 4000000 in
theorem w_X12_isAnyRead {l : Launch} (fu : Nat) (x1 : Int32)     (M : xM)  : AW SM l RX12 cX12_isAnyRead 3 (some .boolean) 3 ki (F_X12_isAnyRead fu x1  M) 0 [some (xr 0), some (xi x1), none] [] M := by
  unfold F_X12_isAnyRead
  refine A_iconst (v := (0 : Int32)) dX12_isAnyRead_0 oI_0 ?_
  refine A_istore_n dX12_isAnyRead_1 (Nat.le_of_ble_eq_true rfl) rfl ?_
  exact (a_X12_isAnyRead_b2 (l := l) fu x1  fu _ _).sub ⟨rfl, rfl, rfl, trivial⟩
theorem a_X12_isAnyRead {l : Launch} (fu : Nat)  (x1 : Int32) (M : xM)  : AM SM l yX12_isAnyRead cX12_isAnyRead 3 (some .boolean) 3 ki [xr 0, xi x1] M (F_X12_isAnyRead fu x1  M) :=
  AM.of (L0 := [some (xr 0), some (xi x1), none]) (w_X12_isAnyRead (l := l) fu x1  M ) (by decide +kernel) rfl (Nat.le_of_ble_eq_true rfl) ⟨rfl, rfl, trivial⟩
def F_X12_agreesOn_b58 (fu : Nat)  (x1 : Int32) (k4 : Int32 → Int32 → xM → Option (Int32 × xM)) (x2 : Int32) (x3 : Int32) (M : xM) : Option (Int32 × xM) :=
  k4 x2 (x3 + (1 : Int32)) M
set_option maxRecDepth 100000 in
set_option maxHeartbeats 4000000 in
theorem a_X12_agreesOn_b58 {l : Launch} (fu : Nat) (x1 : Int32)  {k4 : Int32 → Int32 → xM → Option (Int32 × xM)} (hk4 : ∀ (b0 : Int32) (b1 : Int32) (M : xM), AW SM l RX12 cX12_agreesOn 5 (some .int) 4 ki (k4 b0 b1 M) 4 [some (xr 0), some (xi x1), some (xi b0), some (xi b1), none] [] M) (x2 : Int32) (x3 : Int32) (M : xM)  : AW SM l RX12 cX12_agreesOn 5 (some .int) 4 ki (F_X12_agreesOn_b58 fu x1 k4 x2 x3 M) 58 [some (xr 0), some (xi x1), some (xi x2), some (xi x3), none] [] M := by
  unfold F_X12_agreesOn_b58
  refine A_iinc dX12_agreesOn_58 rfl oI_1 (Nat.le_of_ble_eq_true rfl) rfl ?_
  refine A_goto (tgt := 4) dX12_agreesOn_61 (by decide) ?_
  exact (hk4 _ _ _).sub ⟨rfl, rfl, rfl, rfl, trivial⟩
def F_X12_agreesOn_b55 (fu : Nat)  (x1 : Int32) (k4 : Int32 → Int32 → xM → Option (Int32 × xM)) (x3 : Int32) (x4 : Int32) (M : xM) : Option (Int32 × xM) :=
  F_X12_agreesOn_b58 fu x1 k4 x4 x3 M
set_option maxRecDepth 100000 in
set_option maxHeartbeats 4000000 in
theorem a_X12_agreesOn_b55 {l : Launch} (fu : Nat) (x1 : Int32)  {k4 : Int32 → Int32 → xM → Option (Int32 × xM)} (hk4 : ∀ (b0 : Int32) (b1 : Int32) (M : xM), AW SM l RX12 cX12_agreesOn 5 (some .int) 4 ki (k4 b0 b1 M) 4 [some (xr 0), some (xi x1), some (xi b0), some (xi b1), none] [] M) (x3 : Int32) (x4 : Int32) (M : xM)  : AW SM l RX12 cX12_agreesOn 5 (some .int) 4 ki (F_X12_agreesOn_b55 fu x1 k4 x3 x4 M) 55 [some (xr 0), some (xi x1), none, some (xi x3), some (xi x4)] [] M := by
  unfold F_X12_agreesOn_b55
  refine A_iload dX12_agreesOn_55 rfl ?_
  refine A_istore_n dX12_agreesOn_57 (Nat.le_of_ble_eq_true rfl) rfl ?_
  exact (a_X12_agreesOn_b58 (l := l) fu x1 hk4 _ _ _ ).sub ⟨rfl, rfl, rfl, rfl, trivial⟩
def F_X12_agreesOn_b4 (fu : Nat)  (x1 : Int32)  : Nat → Int32 → Int32 → xM → Option (Int32 × xM)
  | 0, _, _, _ => none
  | n + 1, x2, x3, M =>
    (if (4 : Int32) ≤ x3 then
    (if x2 = (-1 : Int32) then
    some ((-1 : Int32), M)
    else
    some ((P_J6_numberOfTrailingZeros_0f7a4 x2 M), M))
    else
    (F_X12_isRead x3 x1 M).bind fun q1 =>
    (if q1.1 = 0 then
    F_X12_agreesOn_b58 fu x1 (F_X12_agreesOn_b4 fu x1 n) x2 x3 q1.2
    else
    (F_X12_goesOf fu (((30 : Int32) * x3) + x1) q1.2).bind fun q2 =>
    (if (P_J6_bitCount_0f7a4 q2.1 q2.2) = (1 : Int32) then
    (if x2 = (-1 : Int32) then
    F_X12_agreesOn_b55 fu x1 (F_X12_agreesOn_b4 fu x1 n) x3 q2.1 q2.2
    else
    (if x2 = q2.1 then
    F_X12_agreesOn_b55 fu x1 (F_X12_agreesOn_b4 fu x1 n) x3 q2.1 q2.2
    else
    some ((-1 : Int32), q2.2)))
    else
    some ((-1 : Int32), q2.2))))
set_option maxRecDepth 100000 in
set_option maxHeartbeats 4000000 in
theorem a_X12_agreesOn_b4 {l : Launch} (fu : Nat) (x1 : Int32)    : ∀ (n : Nat) (x2 : Int32) (x3 : Int32) (M : xM), AW SM l RX12 cX12_agreesOn 5 (some .int) 4 ki (F_X12_agreesOn_b4 fu x1 n x2 x3 M) 4 [some (xr 0), some (xi x1), some (xi x2), some (xi x3), none] [] M := by
  intro n
  induction n with
  | zero =>
    intro x2 x3 M
    exact AW.none
  | succ n ih =>
    intro x2 x3 M
    rw [F_X12_agreesOn_b4]
    refine A_iload_n dX12_agreesOn_4 rfl ?_
    refine A_iconst (v := (4 : Int32)) dX12_agreesOn_5 oI_4 ?_
    refine A_icmp_ge (tgt := 64) dX12_agreesOn_6 (by decide) (fun _ => ?_) (fun _ => ?_)
    · refine A_iload_n dX12_agreesOn_64 rfl ?_
      refine A_iconst (v := (-1 : Int32)) dX12_agreesOn_65 oI_m1 ?_
      refine A_icmp_ne (tgt := 73) dX12_agreesOn_66 (by decide) (fun _ => ?_) (fun _ => ?_)
      · refine A_iconst (v := (-1 : Int32)) dX12_agreesOn_69 oI_m1 ?_
        refine A_goto (tgt := 77) dX12_agreesOn_70 (by decide) ?_
        exact A_iret rfl dX12_agreesOn_77
      · refine A_iload_n dX12_agreesOn_73 rfl ?_
        refine A_callSp (a_J6_numberOfTrailingZeros_0f7a4 (S := SM) (l := l) _ _ ) lc_X12_474 rfl (by decide) (Nat.le_of_ble_eq_true rfl) rfl dX12_agreesOn_74 ?_
        exact A_iret rfl dX12_agreesOn_77
    · refine A_aload_n dX12_agreesOn_9 rfl ?_
      refine A_iload_n dX12_agreesOn_10 rfl ?_
      refine A_iload_n dX12_agreesOn_11 rfl ?_
      refine A_callVi (a_X12_isRead (l := l) _ _ _ ) lc_X12_465 rfl rfl (by decide) (Nat.le_of_ble_eq_true rfl) rfl dX12_agreesOn_12 (fun q1 Mq1 hq1 => ?_)
      refine A_if_ne (tgt := 21) dX12_agreesOn_15 (by decide) (fun _ => ?_) (fun _ => ?_)
      · refine A_goto (tgt := 58) dX12_agreesOn_18 (by decide) ?_
        exact (a_X12_agreesOn_b58 (l := l) fu x1 ih _ _ _ ).sub ⟨rfl, rfl, rfl, rfl, trivial⟩
      · refine A_aload_n dX12_agreesOn_21 rfl ?_
        refine A_bipush (v := (30 : Int32)) dX12_agreesOn_22 oB_30 ?_
        refine A_iload_n dX12_agreesOn_24 rfl ?_
        refine A_imul dX12_agreesOn_25 ?_
        refine A_iload_n dX12_agreesOn_26 rfl ?_
        refine A_iadd dX12_agreesOn_27 ?_
        refine A_callVi (a_X12_goesOf (l := l) fu _ _ ) lc_X12_471 rfl rfl (by decide) (Nat.le_of_ble_eq_true rfl) rfl dX12_agreesOn_28 (fun q2 Mq2 hq2 => ?_)
        refine A_istore dX12_agreesOn_31 (Nat.le_of_ble_eq_true rfl) rfl ?_
        refine A_iload dX12_agreesOn_33 rfl ?_
        refine A_callSp (a_J6_bitCount_0f7a4 (S := SM) (l := l) _ _ ) lc_X12_183 rfl (by decide) (Nat.le_of_ble_eq_true rfl) rfl dX12_agreesOn_35 ?_
        refine A_iconst (v := (1 : Int32)) dX12_agreesOn_38 oI_1 ?_
        refine A_icmp_ne (tgt := 53) dX12_agreesOn_39 (by decide) (fun _ => ?_) (fun _ => ?_)
        · refine A_iload_n dX12_agreesOn_42 rfl ?_
          refine A_iconst (v := (-1 : Int32)) dX12_agreesOn_43 oI_m1 ?_
          refine A_icmp_eq (tgt := 55) dX12_agreesOn_44 (by decide) (fun _ => ?_) (fun _ => ?_)
          · exact (a_X12_agreesOn_b55 (l := l) fu x1 ih _ _ _ ).sub ⟨rfl, rfl, rfl, rfl, trivial⟩
          · refine A_iload_n dX12_agreesOn_47 rfl ?_
            refine A_iload dX12_agreesOn_48 rfl ?_
            refine A_icmp_eq (tgt := 55) dX12_agreesOn_50 (by decide) (fun _ => ?_) (fun _ => ?_)
            · exact (a_X12_agreesOn_b55 (l := l) fu x1 ih _ _ _ ).sub ⟨rfl, rfl, rfl, rfl, trivial⟩
            · refine A_iconst (v := (-1 : Int32)) dX12_agreesOn_53 oI_m1 ?_
              exact A_iret rfl dX12_agreesOn_54
        · refine A_iconst (v := (-1 : Int32)) dX12_agreesOn_53 oI_m1 ?_
          exact A_iret rfl dX12_agreesOn_54
def F_X12_agreesOn (fu : Nat)  (x1 : Int32)   (M : xM) : Option (Int32 × xM) :=
  F_X12_agreesOn_b4 fu x1 fu (-1 : Int32) (0 : Int32) M
set_option maxRecDepth 100000 in
set_option maxHeartbeats 4000000 in
theorem w_X12_agreesOn {l : Launch} (fu : Nat) (x1 : Int32)     (M : xM)  : AW SM l RX12 cX12_agreesOn 5 (some .int) 4 ki (F_X12_agreesOn fu x1  M) 0 [some (xr 0), some (xi x1), none, none, none] [] M := by
  unfold F_X12_agreesOn
  refine A_iconst (v := (-1 : Int32)) dX12_agreesOn_0 oI_m1 ?_
  refine A_istore_n dX12_agreesOn_1 (Nat.le_of_ble_eq_true rfl) rfl ?_
  refine A_iconst (v := (0 : Int32)) dX12_agreesOn_2 oI_0 ?_
  refine A_istore_n dX12_agreesOn_3 (Nat.le_of_ble_eq_true rfl) rfl ?_
  exact (a_X12_agreesOn_b4 (l := l) fu x1  fu _ _ _).sub ⟨rfl, rfl, rfl, rfl, trivial⟩
theorem a_X12_agreesOn {l : Launch} (fu : Nat)  (x1 : Int32) (M : xM)  : AM SM l yX12_agreesOn cX12_agreesOn 5 (some .int) 4 ki [xr 0, xi x1] M (F_X12_agreesOn fu x1  M) :=
  AM.of (L0 := [some (xr 0), some (xi x1), none, none, none]) (w_X12_agreesOn (l := l) fu x1  M ) (by decide +kernel) rfl (Nat.le_of_ble_eq_true rfl) ⟨rfl, rfl, trivial⟩
def F_X12_agrees (fu : Nat)  (x1 : Int32)   (M : xM) : Option (Int32 × xM) :=
  (if (P_X12_isPaper x1 (xset M 0 0 (0 : Int32))) = 0 then
  some ((-1 : Int32), (xset M 0 0 (0 : Int32)))
  else
  (F_X12_agreesOn fu x1 (xset M 0 0 (0 : Int32))).bind fun q1 =>
  some (q1.1, q1.2))
set_option maxRecDepth 100000 in
set_option maxHeartbeats 4000000 in
theorem w_X12_agrees {l : Launch} (fu : Nat) (x1 : Int32)     (M : xM)  : AW SM l RX12 cX12_agrees 2 (some .int) 5 ki (F_X12_agrees fu x1  M) 0 [some (xr 0), some (xi x1)] [] M := by
  unfold F_X12_agrees
  refine A_aload_n dX12_agrees_0 rfl ?_
  refine A_iconst (v := (0 : Int32)) dX12_agrees_1 oI_0 ?_
  refine A_puti lf_X12_180 rfl rfl dX12_agrees_2 ?_
  refine A_iload_n dX12_agrees_5 rfl ?_
  refine A_callSp (a_X12_isPaper (l := l) _ _ ) lc_X12_462 rfl (by decide) (Nat.le_of_ble_eq_true rfl) rfl dX12_agrees_6 ?_
  refine A_if_eq (tgt := 20) dX12_agrees_9 (by decide) (fun _ => ?_) (fun _ => ?_)
  · refine A_iconst (v := (-1 : Int32)) dX12_agrees_20 oI_m1 ?_
    exact A_iret rfl dX12_agrees_21
  · refine A_aload_n dX12_agrees_12 rfl ?_
    refine A_iload_n dX12_agrees_13 rfl ?_
    refine A_callVi (a_X12_agreesOn (l := l) fu _ _ ) lc_X12_477 rfl rfl (by decide) (Nat.le_of_ble_eq_true rfl) rfl dX12_agrees_14 (fun q1 Mq1 hq1 => ?_)
    refine A_goto (tgt := 21) dX12_agrees_17 (by decide) ?_
    exact A_iret rfl dX12_agrees_21
theorem a_X12_agrees {l : Launch} (fu : Nat)  (x1 : Int32) (M : xM)  : AM SM l yX12_agrees cX12_agrees 2 (some .int) 5 ki [xr 0, xi x1] M (F_X12_agrees fu x1  M) :=
  AM.of (L0 := [some (xr 0), some (xi x1)]) (w_X12_agrees (l := l) fu x1  M ) (by decide +kernel) rfl (Nat.le_of_ble_eq_true rfl) ⟨rfl, rfl, trivial⟩
def F_X12_areSame_b19 (fu : Nat)  (x1 : Int32) (x2 : Int32)  : Nat → Int32 → xM → Option (Int32 × xM)
  | 0, _, _ => none
  | n + 1, x3, M =>
    (if x1 < 0 ∨ 120 ≤ x1.toNatClampNeg then none else
    (if (M 34 x1.toNatClampNeg) ≤ x3 then
    some ((1 : Int32), M)
    else
    (if (((8 : Int32) * x1) + x3) < 0 ∨ 960 ≤ (((8 : Int32) * x1) + x3).toNatClampNeg then none else
    (if (((8 : Int32) * x2) + x3) < 0 ∨ 960 ≤ (((8 : Int32) * x2) + x3).toNatClampNeg then none else
    (if (M 32 (((8 : Int32) * x1) + x3).toNatClampNeg) = (M 32 (((8 : Int32) * x2) + x3).toNatClampNeg) then
    F_X12_areSame_b19 fu x1 x2 n (x3 + (1 : Int32)) M
    else
    some ((0 : Int32), M))))))
set_option maxRecDepth 100000 in
set_option maxHeartbeats 4000000 in
theorem a_X12_areSame_b19 {l : Launch} (fu : Nat) (x1 : Int32) (x2 : Int32)    : ∀ (n : Nat) (x3 : Int32) (M : xM), AW SM l RX12 cX12_areSame 4 (some .boolean) 0 ki (F_X12_areSame_b19 fu x1 x2 n x3 M) 19 [some (xr 0), some (xi x1), some (xi x2), some (xi x3)] [] M := by
  intro n
  induction n with
  | zero =>
    intro x3 M
    exact AW.none
  | succ n ih =>
    intro x3 M
    rw [F_X12_areSame_b19]
    refine A_iload_n dX12_areSame_19 rfl ?_
    refine A_aload_n dX12_areSame_20 rfl ?_
    refine A_getr lf_X12_129 rfl rfl dX12_areSame_21 ?_
    refine A_iload_n dX12_areSame_24 rfl ?_
    refine A_iald rfl dX12_areSame_25 (fun _ => ?_)
    refine A_icmp_ge (tgt := 62) dX12_areSame_26 (by decide) (fun _ => ?_) (fun _ => ?_)
    · refine A_iconst (v := (1 : Int32)) dX12_areSame_62 oI_1 ?_
      exact A_zret' rfl (Or.inr rfl) dX12_areSame_63
    · refine A_aload_n dX12_areSame_29 rfl ?_
      refine A_getr lf_X12_123 rfl rfl dX12_areSame_30 ?_
      refine A_bipush (v := (8 : Int32)) dX12_areSame_33 oB_8 ?_
      refine A_iload_n dX12_areSame_35 rfl ?_
      refine A_imul dX12_areSame_36 ?_
      refine A_iload_n dX12_areSame_37 rfl ?_
      refine A_iadd dX12_areSame_38 ?_
      refine A_bald rfl dX12_areSame_39 (fun _ => ?_)
      refine A_aload_n dX12_areSame_40 rfl ?_
      refine A_getr lf_X12_123 rfl rfl dX12_areSame_41 ?_
      refine A_bipush (v := (8 : Int32)) dX12_areSame_44 oB_8 ?_
      refine A_iload_n dX12_areSame_46 rfl ?_
      refine A_imul dX12_areSame_47 ?_
      refine A_iload_n dX12_areSame_48 rfl ?_
      refine A_iadd dX12_areSame_49 ?_
      refine A_bald rfl dX12_areSame_50 (fun _ => ?_)
      refine A_icmp_eq (tgt := 56) dX12_areSame_51 (by decide) (fun _ => ?_) (fun _ => ?_)
      · refine A_iinc dX12_areSame_56 rfl oI_1 (Nat.le_of_ble_eq_true rfl) rfl ?_
        refine A_goto (tgt := 19) dX12_areSame_59 (by decide) ?_
        exact (ih _ _).sub ⟨rfl, rfl, rfl, rfl, trivial⟩
      · refine A_iconst (v := (0 : Int32)) dX12_areSame_54 oI_0 ?_
        exact A_zret' rfl (Or.inl rfl) dX12_areSame_55
def F_X12_areSame (fu : Nat)  (x1 : Int32) (x2 : Int32)   (M : xM) : Option (Int32 × xM) :=
  (if x1 < 0 ∨ 120 ≤ x1.toNatClampNeg then none else
  (if x2 < 0 ∨ 120 ≤ x2.toNatClampNeg then none else
  (if (M 34 x1.toNatClampNeg) = (M 34 x2.toNatClampNeg) then
  F_X12_areSame_b19 fu x1 x2 fu (0 : Int32) M
  else
  some ((0 : Int32), M))))
set_option maxRecDepth 100000 in
set_option maxHeartbeats 4000000 in
theorem w_X12_areSame {l : Launch} (fu : Nat) (x1 : Int32) (x2 : Int32)     (M : xM)  : AW SM l RX12 cX12_areSame 4 (some .boolean) 0 ki (F_X12_areSame fu x1 x2  M) 0 [some (xr 0), some (xi x1), some (xi x2), none] [] M := by
  unfold F_X12_areSame
  refine A_aload_n dX12_areSame_0 rfl ?_
  refine A_getr lf_X12_129 rfl rfl dX12_areSame_1 ?_
  refine A_iload_n dX12_areSame_4 rfl ?_
  refine A_iald rfl dX12_areSame_5 (fun _ => ?_)
  refine A_aload_n dX12_areSame_6 rfl ?_
  refine A_getr lf_X12_129 rfl rfl dX12_areSame_7 ?_
  refine A_iload_n dX12_areSame_10 rfl ?_
  refine A_iald rfl dX12_areSame_11 (fun _ => ?_)
  refine A_icmp_eq (tgt := 17) dX12_areSame_12 (by decide) (fun _ => ?_) (fun _ => ?_)
  · refine A_iconst (v := (0 : Int32)) dX12_areSame_17 oI_0 ?_
    refine A_istore_n dX12_areSame_18 (Nat.le_of_ble_eq_true rfl) rfl ?_
    exact (a_X12_areSame_b19 (l := l) fu x1 x2  fu _ _).sub ⟨rfl, rfl, rfl, rfl, trivial⟩
  · refine A_iconst (v := (0 : Int32)) dX12_areSame_15 oI_0 ?_
    exact A_zret' rfl (Or.inl rfl) dX12_areSame_16
theorem a_X12_areSame {l : Launch} (fu : Nat)  (x1 : Int32) (x2 : Int32) (M : xM)  : AM SM l yX12_areSame cX12_areSame 4 (some .boolean) 0 ki [xr 0, xi x1, xi x2] M (F_X12_areSame fu x1 x2  M) :=
  AM.of (L0 := [some (xr 0), some (xi x1), some (xi x2), none]) (w_X12_areSame (l := l) fu x1 x2  M ) (by decide +kernel) rfl (Nat.le_of_ble_eq_true rfl) ⟨rfl, rfl, rfl, trivial⟩
def F_X12_isReadUnlike_b53 (fu : Nat)  (x1 : Int32) (k2 : Int32 → xM → Option (Int32 × xM)) (k9 : Int32 → Int32 → xM → Option (Int32 × xM)) (x2 : Int32) (x3 : Int32) (M : xM) : Option (Int32 × xM) :=
  k9 x2 (x3 + (1 : Int32)) M
set_option maxRecDepth 100000 in
set_option maxHeartbeats 4000000 in
theorem a_X12_isReadUnlike_b53 {l : Launch} (fu : Nat) (x1 : Int32)  {k2 : Int32 → xM → Option (Int32 × xM)} {k9 : Int32 → Int32 → xM → Option (Int32 × xM)} (hk2 : ∀ (b0 : Int32) (M : xM), AW SM l RX12 cX12_isReadUnlike 4 (some .boolean) 3 ki (k2 b0 M) 2 [some (xr 0), some (xi x1), some (xi b0), none] [] M) (hk9 : ∀ (b0 : Int32) (b1 : Int32) (M : xM), AW SM l RX12 cX12_isReadUnlike 4 (some .boolean) 3 ki (k9 b0 b1 M) 9 [some (xr 0), some (xi x1), some (xi b0), some (xi b1)] [] M) (x2 : Int32) (x3 : Int32) (M : xM)  : AW SM l RX12 cX12_isReadUnlike 4 (some .boolean) 3 ki (F_X12_isReadUnlike_b53 fu x1 k2 k9 x2 x3 M) 53 [some (xr 0), some (xi x1), some (xi x2), some (xi x3)] [] M := by
  unfold F_X12_isReadUnlike_b53
  refine A_iinc dX12_isReadUnlike_53 rfl oI_1 (Nat.le_of_ble_eq_true rfl) rfl ?_
  refine A_goto (tgt := 9) dX12_isReadUnlike_56 (by decide) ?_
  exact (hk9 _ _ _).sub ⟨rfl, rfl, rfl, rfl, trivial⟩
def F_X12_isReadUnlike_b9 (fu : Nat)  (x1 : Int32) (k2 : Int32 → xM → Option (Int32 × xM)) : Nat → Int32 → Int32 → xM → Option (Int32 × xM)
  | 0, _, _, _ => none
  | n + 1, x2, x3, M =>
    (if x2 ≤ x3 then
    k2 (x2 + (1 : Int32)) M
    else
    (F_X12_isRead x2 x1 M).bind fun q1 =>
    (if q1.1 = 0 then
    F_X12_isReadUnlike_b53 fu x1 k2 (F_X12_isReadUnlike_b9 fu x1 k2 n) x2 x3 q1.2
    else
    (F_X12_isRead x3 x1 q1.2).bind fun q2 =>
    (if q2.1 = 0 then
    F_X12_isReadUnlike_b53 fu x1 k2 (F_X12_isReadUnlike_b9 fu x1 k2 n) x2 x3 q2.2
    else
    (F_X12_areSame fu (((30 : Int32) * x2) + x1) (((30 : Int32) * x3) + x1) q2.2).bind fun q3 =>
    (if q3.1 = 0 then
    some ((1 : Int32), q3.2)
    else
    F_X12_isReadUnlike_b53 fu x1 k2 (F_X12_isReadUnlike_b9 fu x1 k2 n) x2 x3 q3.2))))
set_option maxRecDepth 100000 in
set_option maxHeartbeats 4000000 in
theorem a_X12_isReadUnlike_b9 {l : Launch} (fu : Nat) (x1 : Int32)  {k2 : Int32 → xM → Option (Int32 × xM)} (hk2 : ∀ (b0 : Int32) (M : xM), AW SM l RX12 cX12_isReadUnlike 4 (some .boolean) 3 ki (k2 b0 M) 2 [some (xr 0), some (xi x1), some (xi b0), none] [] M) : ∀ (n : Nat) (x2 : Int32) (x3 : Int32) (M : xM), AW SM l RX12 cX12_isReadUnlike 4 (some .boolean) 3 ki (F_X12_isReadUnlike_b9 fu x1 k2 n x2 x3 M) 9 [some (xr 0), some (xi x1), some (xi x2), some (xi x3)] [] M := by
  intro n
  induction n with
  | zero =>
    intro x2 x3 M
    exact AW.none
  | succ n ih =>
    intro x2 x3 M
    rw [F_X12_isReadUnlike_b9]
    refine A_iload_n dX12_isReadUnlike_9 rfl ?_
    refine A_iload_n dX12_isReadUnlike_10 rfl ?_
    refine A_icmp_ge (tgt := 59) dX12_isReadUnlike_11 (by decide) (fun _ => ?_) (fun _ => ?_)
    · refine A_iinc dX12_isReadUnlike_59 rfl oI_1 (Nat.le_of_ble_eq_true rfl) rfl ?_
      refine A_goto (tgt := 2) dX12_isReadUnlike_62 (by decide) ?_
      exact (hk2 _ _).sub ⟨rfl, rfl, rfl, trivial⟩
    · refine A_aload_n dX12_isReadUnlike_14 rfl ?_
      refine A_iload_n dX12_isReadUnlike_15 rfl ?_
      refine A_iload_n dX12_isReadUnlike_16 rfl ?_
      refine A_callVi (a_X12_isRead (l := l) _ _ _ ) lc_X12_465 rfl rfl (by decide) (Nat.le_of_ble_eq_true rfl) rfl dX12_isReadUnlike_17 (fun q1 Mq1 hq1 => ?_)
      refine A_if_eq (tgt := 53) dX12_isReadUnlike_20 (by decide) (fun _ => ?_) (fun _ => ?_)
      · exact (a_X12_isReadUnlike_b53 (l := l) fu x1 hk2 ih _ _ _ ).sub ⟨rfl, rfl, rfl, rfl, trivial⟩
      · refine A_aload_n dX12_isReadUnlike_23 rfl ?_
        refine A_iload_n dX12_isReadUnlike_24 rfl ?_
        refine A_iload_n dX12_isReadUnlike_25 rfl ?_
        refine A_callVi (a_X12_isRead (l := l) _ _ _ ) lc_X12_465 rfl rfl (by decide) (Nat.le_of_ble_eq_true rfl) rfl dX12_isReadUnlike_26 (fun q2 Mq2 hq2 => ?_)
        refine A_if_eq (tgt := 53) dX12_isReadUnlike_29 (by decide) (fun _ => ?_) (fun _ => ?_)
        · exact (a_X12_isReadUnlike_b53 (l := l) fu x1 hk2 ih _ _ _ ).sub ⟨rfl, rfl, rfl, rfl, trivial⟩
        · refine A_aload_n dX12_isReadUnlike_32 rfl ?_
          refine A_bipush (v := (30 : Int32)) dX12_isReadUnlike_33 oB_30 ?_
          refine A_iload_n dX12_isReadUnlike_35 rfl ?_
          refine A_imul dX12_isReadUnlike_36 ?_
          refine A_iload_n dX12_isReadUnlike_37 rfl ?_
          refine A_iadd dX12_isReadUnlike_38 ?_
          refine A_bipush (v := (30 : Int32)) dX12_isReadUnlike_39 oB_30 ?_
          refine A_iload_n dX12_isReadUnlike_41 rfl ?_
          refine A_imul dX12_isReadUnlike_42 ?_
          refine A_iload_n dX12_isReadUnlike_43 rfl ?_
          refine A_iadd dX12_isReadUnlike_44 ?_
          refine A_callVi (a_X12_areSame (l := l) fu _ _ _ ) lc_X12_480 rfl rfl (by decide) (Nat.le_of_ble_eq_true rfl) rfl dX12_isReadUnlike_45 (fun q3 Mq3 hq3 => ?_)
          refine A_if_ne (tgt := 53) dX12_isReadUnlike_48 (by decide) (fun _ => ?_) (fun _ => ?_)
          · refine A_iconst (v := (1 : Int32)) dX12_isReadUnlike_51 oI_1 ?_
            exact A_zret' rfl (Or.inr rfl) dX12_isReadUnlike_52
          · exact (a_X12_isReadUnlike_b53 (l := l) fu x1 hk2 ih _ _ _ ).sub ⟨rfl, rfl, rfl, rfl, trivial⟩
def F_X12_isReadUnlike_b2 (fu : Nat)  (x1 : Int32)  : Nat → Int32 → xM → Option (Int32 × xM)
  | 0, _, _ => none
  | n + 1, x2, M =>
    (if (4 : Int32) ≤ x2 then
    some ((0 : Int32), M)
    else
    F_X12_isReadUnlike_b9 fu x1 (F_X12_isReadUnlike_b2 fu x1 n) fu x2 (0 : Int32) M)
set_option maxRecDepth 100000 in
set_option maxHeartbeats 4000000 in
theorem a_X12_isReadUnlike_b2 {l : Launch} (fu : Nat) (x1 : Int32)    : ∀ (n : Nat) (x2 : Int32) (M : xM), AW SM l RX12 cX12_isReadUnlike 4 (some .boolean) 3 ki (F_X12_isReadUnlike_b2 fu x1 n x2 M) 2 [some (xr 0), some (xi x1), some (xi x2), none] [] M := by
  intro n
  induction n with
  | zero =>
    intro x2 M
    exact AW.none
  | succ n ih =>
    intro x2 M
    rw [F_X12_isReadUnlike_b2]
    refine A_iload_n dX12_isReadUnlike_2 rfl ?_
    refine A_iconst (v := (4 : Int32)) dX12_isReadUnlike_3 oI_4 ?_
    refine A_icmp_ge (tgt := 65) dX12_isReadUnlike_4 (by decide) (fun _ => ?_) (fun _ => ?_)
    · refine A_iconst (v := (0 : Int32)) dX12_isReadUnlike_65 oI_0 ?_
      exact A_zret' rfl (Or.inl rfl) dX12_isReadUnlike_66
    · refine A_iconst (v := (0 : Int32)) dX12_isReadUnlike_7 oI_0 ?_
      refine A_istore_n dX12_isReadUnlike_8 (Nat.le_of_ble_eq_true rfl) rfl ?_
      exact (a_X12_isReadUnlike_b9 (l := l) fu x1 ih fu _ _ _).sub ⟨rfl, rfl, rfl, rfl, trivial⟩
def F_X12_isReadUnlike (fu : Nat)  (x1 : Int32)   (M : xM) : Option (Int32 × xM) :=
  F_X12_isReadUnlike_b2 fu x1 fu (0 : Int32) M
set_option maxRecDepth 100000 in
set_option maxHeartbeats 4000000 in
theorem w_X12_isReadUnlike {l : Launch} (fu : Nat) (x1 : Int32)     (M : xM)  : AW SM l RX12 cX12_isReadUnlike 4 (some .boolean) 3 ki (F_X12_isReadUnlike fu x1  M) 0 [some (xr 0), some (xi x1), none, none] [] M := by
  unfold F_X12_isReadUnlike
  refine A_iconst (v := (0 : Int32)) dX12_isReadUnlike_0 oI_0 ?_
  refine A_istore_n dX12_isReadUnlike_1 (Nat.le_of_ble_eq_true rfl) rfl ?_
  exact (a_X12_isReadUnlike_b2 (l := l) fu x1  fu _ _).sub ⟨rfl, rfl, rfl, trivial⟩
theorem a_X12_isReadUnlike {l : Launch} (fu : Nat)  (x1 : Int32) (M : xM)  : AM SM l yX12_isReadUnlike cX12_isReadUnlike 4 (some .boolean) 3 ki [xr 0, xi x1] M (F_X12_isReadUnlike fu x1  M) :=
  AM.of (L0 := [some (xr 0), some (xi x1), none, none]) (w_X12_isReadUnlike (l := l) fu x1  M ) (by decide +kernel) rfl (Nat.le_of_ble_eq_true rfl) ⟨rfl, rfl, trivial⟩
def F_X12_papers_b102 (fu : Nat)  (x1 : Int32) (k20 : Int32 → Int32 → xM → Option (Int32 × xM)) (x2 : Int32) (x3 : Int32) (M : xM) : Option (Int32 × xM) :=
  k20 x2 (x3 + (1 : Int32)) M
set_option maxRecDepth 100000 in
set_option maxHeartbeats 4000000 in
theorem a_X12_papers_b102 {l : Launch} (fu : Nat) (x1 : Int32)  {k20 : Int32 → Int32 → xM → Option (Int32 × xM)} (hk20 : ∀ (b0 : Int32) (b1 : Int32) (M : xM), AW SM l RX12 cX12_papers 5 (some .int) 5 ki (k20 b0 b1 M) 20 [some (xr 0), some (xi x1), some (xi b0), some (xi b1), none] [] M) (x2 : Int32) (x3 : Int32) (M : xM)  : AW SM l RX12 cX12_papers 5 (some .int) 5 ki (F_X12_papers_b102 fu x1 k20 x2 x3 M) 102 [some (xr 0), some (xi x1), some (xi x2), some (xi x3), none] [] M := by
  unfold F_X12_papers_b102
  refine A_iinc dX12_papers_102 rfl oI_1 (Nat.le_of_ble_eq_true rfl) rfl ?_
  refine A_goto (tgt := 20) dX12_papers_105 (by decide) ?_
  exact (hk20 _ _ _).sub ⟨rfl, rfl, rfl, rfl, trivial⟩
def F_X12_papers_b100 (fu : Nat)  (x1 : Int32) (k20 : Int32 → Int32 → xM → Option (Int32 × xM)) (x3 : Int32) (s0 : Int32) (s1 : Int32) (M : xM) : Option (Int32 × xM) :=
  F_X12_papers_b102 fu x1 k20 (s1 + s0) x3 M
set_option maxRecDepth 100000 in
set_option maxHeartbeats 4000000 in
theorem a_X12_papers_b100 {l : Launch} (fu : Nat) (x1 : Int32)  {k20 : Int32 → Int32 → xM → Option (Int32 × xM)} (hk20 : ∀ (b0 : Int32) (b1 : Int32) (M : xM), AW SM l RX12 cX12_papers 5 (some .int) 5 ki (k20 b0 b1 M) 20 [some (xr 0), some (xi x1), some (xi b0), some (xi b1), none] [] M) (x3 : Int32) (s0 : Int32) (s1 : Int32) (M : xM)  : AW SM l RX12 cX12_papers 5 (some .int) 5 ki (F_X12_papers_b100 fu x1 k20 x3 s0 s1 M) 100 [some (xr 0), some (xi x1), none, some (xi x3), none] [xi s0, xi s1] M := by
  unfold F_X12_papers_b100
  refine A_iadd dX12_papers_100 ?_
  refine A_istore_n dX12_papers_101 (Nat.le_of_ble_eq_true rfl) rfl ?_
  exact (a_X12_papers_b102 (l := l) fu x1 hk20 _ _ _ ).sub ⟨rfl, rfl, rfl, rfl, trivial⟩
def F_X12_papers_b95 (fu : Nat)  (x1 : Int32) (k20 : Int32 → Int32 → xM → Option (Int32 × xM)) (x3 : Int32) (s0 : Int32) (M : xM) : Option (Int32 × xM) :=
  F_X12_papers_b100 fu x1 k20 x3 (1 : Int32) s0 M
set_option maxRecDepth 100000 in
set_option maxHeartbeats 4000000 in
theorem a_X12_papers_b95 {l : Launch} (fu : Nat) (x1 : Int32)  {k20 : Int32 → Int32 → xM → Option (Int32 × xM)} (hk20 : ∀ (b0 : Int32) (b1 : Int32) (M : xM), AW SM l RX12 cX12_papers 5 (some .int) 5 ki (k20 b0 b1 M) 20 [some (xr 0), some (xi x1), some (xi b0), some (xi b1), none] [] M) (x3 : Int32) (s0 : Int32) (M : xM)  : AW SM l RX12 cX12_papers 5 (some .int) 5 ki (F_X12_papers_b95 fu x1 k20 x3 s0 M) 95 [some (xr 0), some (xi x1), none, some (xi x3), none] [xi s0] M := by
  unfold F_X12_papers_b95
  refine A_iconst (v := (1 : Int32)) dX12_papers_95 oI_1 ?_
  refine A_goto (tgt := 100) dX12_papers_96 (by decide) ?_
  exact (a_X12_papers_b100 (l := l) fu x1 hk20 _ _ _ _ ).sub ⟨rfl, rfl, rfl, trivial⟩
def F_X12_papers_b99 (fu : Nat)  (x1 : Int32) (k20 : Int32 → Int32 → xM → Option (Int32 × xM)) (x3 : Int32) (s0 : Int32) (M : xM) : Option (Int32 × xM) :=
  F_X12_papers_b100 fu x1 k20 x3 (0 : Int32) s0 M
set_option maxRecDepth 100000 in
set_option maxHeartbeats 4000000 in
theorem a_X12_papers_b99 {l : Launch} (fu : Nat) (x1 : Int32)  {k20 : Int32 → Int32 → xM → Option (Int32 × xM)} (hk20 : ∀ (b0 : Int32) (b1 : Int32) (M : xM), AW SM l RX12 cX12_papers 5 (some .int) 5 ki (k20 b0 b1 M) 20 [some (xr 0), some (xi x1), some (xi b0), some (xi b1), none] [] M) (x3 : Int32) (s0 : Int32) (M : xM)  : AW SM l RX12 cX12_papers 5 (some .int) 5 ki (F_X12_papers_b99 fu x1 k20 x3 s0 M) 99 [some (xr 0), some (xi x1), none, some (xi x3), none] [xi s0] M := by
  unfold F_X12_papers_b99
  refine A_iconst (v := (0 : Int32)) dX12_papers_99 oI_0 ?_
  exact (a_X12_papers_b100 (l := l) fu x1 hk20 _ _ _ _ ).sub ⟨rfl, rfl, rfl, trivial⟩
def F_X12_papers_b51 (fu : Nat)  (x1 : Int32) (k20 : Int32 → Int32 → xM → Option (Int32 × xM)) (x2 : Int32) (x3 : Int32) (s0 : Int32) (M : xM) : Option (Int32 × xM) :=
  (if x1 = 0 then
  F_X12_papers_b95 fu x1 k20 x3 x2 M
  else
  (if x1 = (1 : Int32) then
  (if s0 = 0 then
  F_X12_papers_b99 fu x1 k20 x3 x2 M
  else
  F_X12_papers_b95 fu x1 k20 x3 x2 M)
  else
  (if x1 = (2 : Int32) then
  (if s0 = 0 then
  F_X12_papers_b95 fu x1 k20 x3 x2 M
  else
  F_X12_papers_b99 fu x1 k20 x3 x2 M)
  else
  (F_X12_isReadUnlike fu x3 M).bind fun q1 =>
  (if q1.1 = 0 then
  F_X12_papers_b99 fu x1 k20 x3 x2 q1.2
  else
  F_X12_papers_b95 fu x1 k20 x3 x2 q1.2))))
set_option maxRecDepth 100000 in
set_option maxHeartbeats 4000000 in
theorem a_X12_papers_b51 {l : Launch} (fu : Nat) (x1 : Int32)  {k20 : Int32 → Int32 → xM → Option (Int32 × xM)} (hk20 : ∀ (b0 : Int32) (b1 : Int32) (M : xM), AW SM l RX12 cX12_papers 5 (some .int) 5 ki (k20 b0 b1 M) 20 [some (xr 0), some (xi x1), some (xi b0), some (xi b1), none] [] M) (x2 : Int32) (x3 : Int32) (s0 : Int32) (M : xM)  : AW SM l RX12 cX12_papers 5 (some .int) 5 ki (F_X12_papers_b51 fu x1 k20 x2 x3 s0 M) 51 [some (xr 0), some (xi x1), some (xi x2), some (xi x3), none] [xi s0] M := by
  unfold F_X12_papers_b51
  refine A_istore dX12_papers_51 (Nat.le_of_ble_eq_true rfl) rfl ?_
  refine A_iload_n dX12_papers_53 rfl ?_
  refine A_iload_n dX12_papers_54 rfl ?_
  refine A_if_ne (tgt := 61) dX12_papers_55 (by decide) (fun _ => ?_) (fun _ => ?_)
  · refine A_goto (tgt := 95) dX12_papers_58 (by decide) ?_
    exact (a_X12_papers_b95 (l := l) fu x1 hk20 _ _ _ ).sub ⟨rfl, rfl, rfl, trivial⟩
  · refine A_iload_n dX12_papers_61 rfl ?_
    refine A_iconst (v := (1 : Int32)) dX12_papers_62 oI_1 ?_
    refine A_icmp_ne (tgt := 74) dX12_papers_63 (by decide) (fun _ => ?_) (fun _ => ?_)
    · refine A_iload dX12_papers_66 rfl ?_
      refine A_if_eq (tgt := 99) dX12_papers_68 (by decide) (fun _ => ?_) (fun _ => ?_)
      · exact (a_X12_papers_b99 (l := l) fu x1 hk20 _ _ _ ).sub ⟨rfl, rfl, rfl, trivial⟩
      · refine A_goto (tgt := 95) dX12_papers_71 (by decide) ?_
        exact (a_X12_papers_b95 (l := l) fu x1 hk20 _ _ _ ).sub ⟨rfl, rfl, rfl, trivial⟩
    · refine A_iload_n dX12_papers_74 rfl ?_
      refine A_iconst (v := (2 : Int32)) dX12_papers_75 oI_2 ?_
      refine A_icmp_ne (tgt := 87) dX12_papers_76 (by decide) (fun _ => ?_) (fun _ => ?_)
      · refine A_iload dX12_papers_79 rfl ?_
        refine A_if_ne (tgt := 99) dX12_papers_81 (by decide) (fun _ => ?_) (fun _ => ?_)
        · refine A_goto (tgt := 95) dX12_papers_84 (by decide) ?_
          exact (a_X12_papers_b95 (l := l) fu x1 hk20 _ _ _ ).sub ⟨rfl, rfl, rfl, trivial⟩
        · exact (a_X12_papers_b99 (l := l) fu x1 hk20 _ _ _ ).sub ⟨rfl, rfl, rfl, trivial⟩
      · refine A_aload_n dX12_papers_87 rfl ?_
        refine A_iload_n dX12_papers_88 rfl ?_
        refine A_callVi (a_X12_isReadUnlike (l := l) fu _ _ ) lc_X12_486 rfl rfl (by decide) (Nat.le_of_ble_eq_true rfl) rfl dX12_papers_89 (fun q1 Mq1 hq1 => ?_)
        refine A_if_eq (tgt := 99) dX12_papers_92 (by decide) (fun _ => ?_) (fun _ => ?_)
        · exact (a_X12_papers_b99 (l := l) fu x1 hk20 _ _ _ ).sub ⟨rfl, rfl, rfl, trivial⟩
        · exact (a_X12_papers_b95 (l := l) fu x1 hk20 _ _ _ ).sub ⟨rfl, rfl, rfl, trivial⟩
def F_X12_papers_b20 (fu : Nat)  (x1 : Int32)  : Nat → Int32 → Int32 → xM → Option (Int32 × xM)
  | 0, _, _, _ => none
  | n + 1, x2, x3, M =>
    (if (30 : Int32) ≤ x3 then
    some (x2, M)
    else
    (F_X12_isAnyRead fu x3 M).bind fun q1 =>
    (if q1.1 = 0 then
    F_X12_papers_b102 fu x1 (F_X12_papers_b20 fu x1 n) x2 x3 q1.2
    else
    (F_X12_agreesOn fu x3 q1.2).bind fun q2 =>
    (if q2.1 = (-1 : Int32) then
    F_X12_papers_b51 fu x1 (F_X12_papers_b20 fu x1 n) x2 x3 (0 : Int32) q2.2
    else
    F_X12_papers_b51 fu x1 (F_X12_papers_b20 fu x1 n) x2 x3 (1 : Int32) q2.2)))
set_option maxRecDepth 100000 in
set_option maxHeartbeats 4000000 in
theorem a_X12_papers_b20 {l : Launch} (fu : Nat) (x1 : Int32)    : ∀ (n : Nat) (x2 : Int32) (x3 : Int32) (M : xM), AW SM l RX12 cX12_papers 5 (some .int) 5 ki (F_X12_papers_b20 fu x1 n x2 x3 M) 20 [some (xr 0), some (xi x1), some (xi x2), some (xi x3), none] [] M := by
  intro n
  induction n with
  | zero =>
    intro x2 x3 M
    exact AW.none
  | succ n ih =>
    intro x2 x3 M
    rw [F_X12_papers_b20]
    refine A_iload_n dX12_papers_20 rfl ?_
    refine A_bipush (v := (30 : Int32)) dX12_papers_21 oB_30 ?_
    refine A_icmp_ge (tgt := 108) dX12_papers_23 (by decide) (fun _ => ?_) (fun _ => ?_)
    · refine A_iload_n dX12_papers_108 rfl ?_
      exact A_iret rfl dX12_papers_109
    · refine A_aload_n dX12_papers_26 rfl ?_
      refine A_iload_n dX12_papers_27 rfl ?_
      refine A_callVi (a_X12_isAnyRead (l := l) fu _ _ ) lc_X12_483 rfl rfl (by decide) (Nat.le_of_ble_eq_true rfl) rfl dX12_papers_28 (fun q1 Mq1 hq1 => ?_)
      refine A_if_ne (tgt := 37) dX12_papers_31 (by decide) (fun _ => ?_) (fun _ => ?_)
      · refine A_goto (tgt := 102) dX12_papers_34 (by decide) ?_
        exact (a_X12_papers_b102 (l := l) fu x1 ih _ _ _ ).sub ⟨rfl, rfl, rfl, rfl, trivial⟩
      · refine A_aload_n dX12_papers_37 rfl ?_
        refine A_iload_n dX12_papers_38 rfl ?_
        refine A_callVi (a_X12_agreesOn (l := l) fu _ _ ) lc_X12_477 rfl rfl (by decide) (Nat.le_of_ble_eq_true rfl) rfl dX12_papers_39 (fun q2 Mq2 hq2 => ?_)
        refine A_iconst (v := (-1 : Int32)) dX12_papers_42 oI_m1 ?_
        refine A_icmp_eq (tgt := 50) dX12_papers_43 (by decide) (fun _ => ?_) (fun _ => ?_)
        · refine A_iconst (v := (0 : Int32)) dX12_papers_50 oI_0 ?_
          exact (a_X12_papers_b51 (l := l) fu x1 ih _ _ _ _ ).sub ⟨rfl, rfl, rfl, rfl, trivial⟩
        · refine A_iconst (v := (1 : Int32)) dX12_papers_46 oI_1 ?_
          refine A_goto (tgt := 51) dX12_papers_47 (by decide) ?_
          exact (a_X12_papers_b51 (l := l) fu x1 ih _ _ _ _ ).sub ⟨rfl, rfl, rfl, rfl, trivial⟩
def F_X12_papers (fu : Nat)  (x1 : Int32)   (M : xM) : Option (Int32 × xM) :=
  (if (P_X12_isIn x1 (0 : Int32) (3 : Int32) (xset M 0 0 (0 : Int32))) = 0 then
  some ((-1 : Int32), (xset M 0 0 (0 : Int32)))
  else
  F_X12_papers_b20 fu x1 fu (0 : Int32) (0 : Int32) (xset M 0 0 (0 : Int32)))
set_option maxRecDepth 100000 in
set_option maxHeartbeats 4000000 in
theorem w_X12_papers {l : Launch} (fu : Nat) (x1 : Int32)     (M : xM)  : AW SM l RX12 cX12_papers 5 (some .int) 5 ki (F_X12_papers fu x1  M) 0 [some (xr 0), some (xi x1), none, none, none] [] M := by
  unfold F_X12_papers
  refine A_aload_n dX12_papers_0 rfl ?_
  refine A_iconst (v := (0 : Int32)) dX12_papers_1 oI_0 ?_
  refine A_puti lf_X12_180 rfl rfl dX12_papers_2 ?_
  refine A_iload_n dX12_papers_5 rfl ?_
  refine A_iconst (v := (0 : Int32)) dX12_papers_6 oI_0 ?_
  refine A_iconst (v := (3 : Int32)) dX12_papers_7 oI_3 ?_
  refine A_callSp (a_X12_isIn (l := l) _ _ _ _ ) lc_X12_196 rfl (by decide) (Nat.le_of_ble_eq_true rfl) rfl dX12_papers_8 ?_
  refine A_if_ne (tgt := 16) dX12_papers_11 (by decide) (fun _ => ?_) (fun _ => ?_)
  · refine A_iconst (v := (-1 : Int32)) dX12_papers_14 oI_m1 ?_
    exact A_iret rfl dX12_papers_15
  · refine A_iconst (v := (0 : Int32)) dX12_papers_16 oI_0 ?_
    refine A_istore_n dX12_papers_17 (Nat.le_of_ble_eq_true rfl) rfl ?_
    refine A_iconst (v := (0 : Int32)) dX12_papers_18 oI_0 ?_
    refine A_istore_n dX12_papers_19 (Nat.le_of_ble_eq_true rfl) rfl ?_
    exact (a_X12_papers_b20 (l := l) fu x1  fu _ _ _).sub ⟨rfl, rfl, rfl, rfl, trivial⟩
theorem a_X12_papers {l : Launch} (fu : Nat)  (x1 : Int32) (M : xM)  : AM SM l yX12_papers cX12_papers 5 (some .int) 5 ki [xr 0, xi x1] M (F_X12_papers fu x1  M) :=
  AM.of (L0 := [some (xr 0), some (xi x1), none, none, none]) (w_X12_papers (l := l) fu x1  M ) (by decide +kernel) rfl (Nat.le_of_ble_eq_true rfl) ⟨rfl, rfl, trivial⟩
def F_X12_written_b69 (fu : Nat)  (x1 : Int32) (x2 : Int32) (k5 : Int32 → Int32 → xM → Option (Int32 × xM)) (k18 : Int32 → Int32 → Int32 → Int32 → xM → Option (Int32 × xM)) (x3 : Int32) (x4 : Int32) (x6 : Int32) (s0 : Int32) (M : xM) : Option (Int32 × xM) :=
  k18 x3 x4 s0 (x6 + (1 : Int32)) M
set_option maxRecDepth 100000 in
set_option maxHeartbeats 4000000 in
theorem a_X12_written_b69 {l : Launch} (fu : Nat) (x1 : Int32) (x2 : Int32)  {k5 : Int32 → Int32 → xM → Option (Int32 × xM)} {k18 : Int32 → Int32 → Int32 → Int32 → xM → Option (Int32 × xM)} (hk5 : ∀ (b0 : Int32) (b1 : Int32) (M : xM), AW SM l RX12 cX12_written 7 (some .int) 5 ki (k5 b0 b1 M) 5 [some (xr 0), some (xi x1), some (xi x2), some (xi b0), some (xi b1), none, none] [] M) (hk18 : ∀ (b0 : Int32) (b1 : Int32) (b2 : Int32) (b3 : Int32) (M : xM), AW SM l RX12 cX12_written 7 (some .int) 5 ki (k18 b0 b1 b2 b3 M) 18 [some (xr 0), some (xi x1), some (xi x2), some (xi b0), some (xi b1), some (xi b2), some (xi b3)] [] M) (x3 : Int32) (x4 : Int32) (x6 : Int32) (s0 : Int32) (M : xM)  : AW SM l RX12 cX12_written 7 (some .int) 5 ki (F_X12_written_b69 fu x1 x2 k5 k18 x3 x4 x6 s0 M) 69 [some (xr 0), some (xi x1), some (xi x2), some (xi x3), some (xi x4), none, some (xi x6)] [xi s0] M := by
  unfold F_X12_written_b69
  refine A_istore dX12_written_69 (Nat.le_of_ble_eq_true rfl) rfl ?_
  refine A_iinc dX12_written_71 rfl oI_1 (Nat.le_of_ble_eq_true rfl) rfl ?_
  refine A_goto (tgt := 18) dX12_written_74 (by decide) ?_
  exact (hk18 _ _ _ _ _).sub ⟨rfl, rfl, rfl, rfl, rfl, rfl, rfl, trivial⟩
def F_X12_written_b64 (fu : Nat)  (x1 : Int32) (x2 : Int32) (k5 : Int32 → Int32 → xM → Option (Int32 × xM)) (k18 : Int32 → Int32 → Int32 → Int32 → xM → Option (Int32 × xM)) (x3 : Int32) (x4 : Int32) (x6 : Int32) (M : xM) : Option (Int32 × xM) :=
  F_X12_written_b69 fu x1 x2 k5 k18 x3 x4 x6 (1 : Int32) M
set_option maxRecDepth 100000 in
set_option maxHeartbeats 4000000 in
theorem a_X12_written_b64 {l : Launch} (fu : Nat) (x1 : Int32) (x2 : Int32)  {k5 : Int32 → Int32 → xM → Option (Int32 × xM)} {k18 : Int32 → Int32 → Int32 → Int32 → xM → Option (Int32 × xM)} (hk5 : ∀ (b0 : Int32) (b1 : Int32) (M : xM), AW SM l RX12 cX12_written 7 (some .int) 5 ki (k5 b0 b1 M) 5 [some (xr 0), some (xi x1), some (xi x2), some (xi b0), some (xi b1), none, none] [] M) (hk18 : ∀ (b0 : Int32) (b1 : Int32) (b2 : Int32) (b3 : Int32) (M : xM), AW SM l RX12 cX12_written 7 (some .int) 5 ki (k18 b0 b1 b2 b3 M) 18 [some (xr 0), some (xi x1), some (xi x2), some (xi b0), some (xi b1), some (xi b2), some (xi b3)] [] M) (x3 : Int32) (x4 : Int32) (x6 : Int32) (M : xM)  : AW SM l RX12 cX12_written 7 (some .int) 5 ki (F_X12_written_b64 fu x1 x2 k5 k18 x3 x4 x6 M) 64 [some (xr 0), some (xi x1), some (xi x2), some (xi x3), some (xi x4), none, some (xi x6)] [] M := by
  unfold F_X12_written_b64
  refine A_iconst (v := (1 : Int32)) dX12_written_64 oI_1 ?_
  refine A_goto (tgt := 69) dX12_written_65 (by decide) ?_
  exact (a_X12_written_b69 (l := l) fu x1 x2 hk5 hk18 _ _ _ _ _ ).sub ⟨rfl, rfl, rfl, rfl, rfl, rfl, trivial⟩
def F_X12_written_b68 (fu : Nat)  (x1 : Int32) (x2 : Int32) (k5 : Int32 → Int32 → xM → Option (Int32 × xM)) (k18 : Int32 → Int32 → Int32 → Int32 → xM → Option (Int32 × xM)) (x3 : Int32) (x4 : Int32) (x6 : Int32) (M : xM) : Option (Int32 × xM) :=
  F_X12_written_b69 fu x1 x2 k5 k18 x3 x4 x6 (0 : Int32) M
set_option maxRecDepth 100000 in
set_option maxHeartbeats 4000000 in
theorem a_X12_written_b68 {l : Launch} (fu : Nat) (x1 : Int32) (x2 : Int32)  {k5 : Int32 → Int32 → xM → Option (Int32 × xM)} {k18 : Int32 → Int32 → Int32 → Int32 → xM → Option (Int32 × xM)} (hk5 : ∀ (b0 : Int32) (b1 : Int32) (M : xM), AW SM l RX12 cX12_written 7 (some .int) 5 ki (k5 b0 b1 M) 5 [some (xr 0), some (xi x1), some (xi x2), some (xi b0), some (xi b1), none, none] [] M) (hk18 : ∀ (b0 : Int32) (b1 : Int32) (b2 : Int32) (b3 : Int32) (M : xM), AW SM l RX12 cX12_written 7 (some .int) 5 ki (k18 b0 b1 b2 b3 M) 18 [some (xr 0), some (xi x1), some (xi x2), some (xi b0), some (xi b1), some (xi b2), some (xi b3)] [] M) (x3 : Int32) (x4 : Int32) (x6 : Int32) (M : xM)  : AW SM l RX12 cX12_written 7 (some .int) 5 ki (F_X12_written_b68 fu x1 x2 k5 k18 x3 x4 x6 M) 68 [some (xr 0), some (xi x1), some (xi x2), some (xi x3), some (xi x4), none, some (xi x6)] [] M := by
  unfold F_X12_written_b68
  refine A_iconst (v := (0 : Int32)) dX12_written_68 oI_0 ?_
  exact (a_X12_written_b69 (l := l) fu x1 x2 hk5 hk18 _ _ _ _ _ ).sub ⟨rfl, rfl, rfl, rfl, rfl, rfl, trivial⟩
def F_X12_written_b105 (fu : Nat)  (x1 : Int32) (x2 : Int32) (k5 : Int32 → Int32 → xM → Option (Int32 × xM)) (x4 : Int32) (s0 : Int32) (s1 : Int32) (M : xM) : Option (Int32 × xM) :=
  k5 (s1 + s0) (x4 + (1 : Int32)) M
set_option maxRecDepth 100000 in
set_option maxHeartbeats 4000000 in
theorem a_X12_written_b105 {l : Launch} (fu : Nat) (x1 : Int32) (x2 : Int32)  {k5 : Int32 → Int32 → xM → Option (Int32 × xM)} (hk5 : ∀ (b0 : Int32) (b1 : Int32) (M : xM), AW SM l RX12 cX12_written 7 (some .int) 5 ki (k5 b0 b1 M) 5 [some (xr 0), some (xi x1), some (xi x2), some (xi b0), some (xi b1), none, none] [] M) (x4 : Int32) (s0 : Int32) (s1 : Int32) (M : xM)  : AW SM l RX12 cX12_written 7 (some .int) 5 ki (F_X12_written_b105 fu x1 x2 k5 x4 s0 s1 M) 105 [some (xr 0), some (xi x1), some (xi x2), none, some (xi x4), none, none] [xi s0, xi s1] M := by
  unfold F_X12_written_b105
  refine A_iadd dX12_written_105 ?_
  refine A_istore_n dX12_written_106 (Nat.le_of_ble_eq_true rfl) rfl ?_
  refine A_iinc dX12_written_107 rfl oI_1 (Nat.le_of_ble_eq_true rfl) rfl ?_
  refine A_goto (tgt := 5) dX12_written_110 (by decide) ?_
  exact (hk5 _ _ _).sub ⟨rfl, rfl, rfl, rfl, rfl, trivial⟩
def F_X12_written_b100 (fu : Nat)  (x1 : Int32) (x2 : Int32) (k5 : Int32 → Int32 → xM → Option (Int32 × xM)) (x4 : Int32) (s0 : Int32) (M : xM) : Option (Int32 × xM) :=
  F_X12_written_b105 fu x1 x2 k5 x4 (1 : Int32) s0 M
set_option maxRecDepth 100000 in
set_option maxHeartbeats 4000000 in
theorem a_X12_written_b100 {l : Launch} (fu : Nat) (x1 : Int32) (x2 : Int32)  {k5 : Int32 → Int32 → xM → Option (Int32 × xM)} (hk5 : ∀ (b0 : Int32) (b1 : Int32) (M : xM), AW SM l RX12 cX12_written 7 (some .int) 5 ki (k5 b0 b1 M) 5 [some (xr 0), some (xi x1), some (xi x2), some (xi b0), some (xi b1), none, none] [] M) (x4 : Int32) (s0 : Int32) (M : xM)  : AW SM l RX12 cX12_written 7 (some .int) 5 ki (F_X12_written_b100 fu x1 x2 k5 x4 s0 M) 100 [some (xr 0), some (xi x1), some (xi x2), none, some (xi x4), none, none] [xi s0] M := by
  unfold F_X12_written_b100
  refine A_iconst (v := (1 : Int32)) dX12_written_100 oI_1 ?_
  refine A_goto (tgt := 105) dX12_written_101 (by decide) ?_
  exact (a_X12_written_b105 (l := l) fu x1 x2 hk5 _ _ _ _ ).sub ⟨rfl, rfl, rfl, rfl, trivial⟩
def F_X12_written_b104 (fu : Nat)  (x1 : Int32) (x2 : Int32) (k5 : Int32 → Int32 → xM → Option (Int32 × xM)) (x4 : Int32) (s0 : Int32) (M : xM) : Option (Int32 × xM) :=
  F_X12_written_b105 fu x1 x2 k5 x4 (0 : Int32) s0 M
set_option maxRecDepth 100000 in
set_option maxHeartbeats 4000000 in
theorem a_X12_written_b104 {l : Launch} (fu : Nat) (x1 : Int32) (x2 : Int32)  {k5 : Int32 → Int32 → xM → Option (Int32 × xM)} (hk5 : ∀ (b0 : Int32) (b1 : Int32) (M : xM), AW SM l RX12 cX12_written 7 (some .int) 5 ki (k5 b0 b1 M) 5 [some (xr 0), some (xi x1), some (xi x2), some (xi b0), some (xi b1), none, none] [] M) (x4 : Int32) (s0 : Int32) (M : xM)  : AW SM l RX12 cX12_written 7 (some .int) 5 ki (F_X12_written_b104 fu x1 x2 k5 x4 s0 M) 104 [some (xr 0), some (xi x1), some (xi x2), none, some (xi x4), none, none] [xi s0] M := by
  unfold F_X12_written_b104
  refine A_iconst (v := (0 : Int32)) dX12_written_104 oI_0 ?_
  exact (a_X12_written_b105 (l := l) fu x1 x2 hk5 _ _ _ _ ).sub ⟨rfl, rfl, rfl, rfl, trivial⟩
def F_X12_written_b77 (fu : Nat)  (x1 : Int32) (x2 : Int32) (k5 : Int32 → Int32 → xM → Option (Int32 × xM)) (x3 : Int32) (x4 : Int32) (x5 : Int32) (M : xM) : Option (Int32 × xM) :=
  (if x2 = 0 then
  (F_X12_agreesOn fu x4 M).bind fun q1 =>
  (if q1.1 = x1 then
  F_X12_written_b100 fu x1 x2 k5 x4 x3 q1.2
  else
  F_X12_written_b104 fu x1 x2 k5 x4 x3 q1.2)
  else
  (if x5 = 0 then
  F_X12_written_b104 fu x1 x2 k5 x4 x3 M
  else
  F_X12_written_b100 fu x1 x2 k5 x4 x3 M))
set_option maxRecDepth 100000 in
set_option maxHeartbeats 4000000 in
theorem a_X12_written_b77 {l : Launch} (fu : Nat) (x1 : Int32) (x2 : Int32)  {k5 : Int32 → Int32 → xM → Option (Int32 × xM)} (hk5 : ∀ (b0 : Int32) (b1 : Int32) (M : xM), AW SM l RX12 cX12_written 7 (some .int) 5 ki (k5 b0 b1 M) 5 [some (xr 0), some (xi x1), some (xi x2), some (xi b0), some (xi b1), none, none] [] M) (x3 : Int32) (x4 : Int32) (x5 : Int32) (M : xM)  : AW SM l RX12 cX12_written 7 (some .int) 5 ki (F_X12_written_b77 fu x1 x2 k5 x3 x4 x5 M) 77 [some (xr 0), some (xi x1), some (xi x2), some (xi x3), some (xi x4), some (xi x5), none] [] M := by
  unfold F_X12_written_b77
  refine A_iload_n dX12_written_77 rfl ?_
  refine A_iload_n dX12_written_78 rfl ?_
  refine A_if_ne (tgt := 95) dX12_written_79 (by decide) (fun _ => ?_) (fun _ => ?_)
  · refine A_aload_n dX12_written_82 rfl ?_
    refine A_iload dX12_written_83 rfl ?_
    refine A_callVi (a_X12_agreesOn (l := l) fu _ _ ) lc_X12_477 rfl rfl (by decide) (Nat.le_of_ble_eq_true rfl) rfl dX12_written_85 (fun q1 Mq1 hq1 => ?_)
    refine A_iload_n dX12_written_88 rfl ?_
    refine A_icmp_ne (tgt := 104) dX12_written_89 (by decide) (fun _ => ?_) (fun _ => ?_)
    · refine A_goto (tgt := 100) dX12_written_92 (by decide) ?_
      exact (a_X12_written_b100 (l := l) fu x1 x2 hk5 _ _ _ ).sub ⟨rfl, rfl, rfl, rfl, trivial⟩
    · exact (a_X12_written_b104 (l := l) fu x1 x2 hk5 _ _ _ ).sub ⟨rfl, rfl, rfl, rfl, trivial⟩
  · refine A_iload dX12_written_95 rfl ?_
    refine A_if_eq (tgt := 104) dX12_written_97 (by decide) (fun _ => ?_) (fun _ => ?_)
    · exact (a_X12_written_b104 (l := l) fu x1 x2 hk5 _ _ _ ).sub ⟨rfl, rfl, rfl, rfl, trivial⟩
    · exact (a_X12_written_b100 (l := l) fu x1 x2 hk5 _ _ _ ).sub ⟨rfl, rfl, rfl, rfl, trivial⟩
def F_X12_written_b18 (fu : Nat)  (x1 : Int32) (x2 : Int32) (k5 : Int32 → Int32 → xM → Option (Int32 × xM)) : Nat → Int32 → Int32 → Int32 → Int32 → xM → Option (Int32 × xM)
  | 0, _, _, _, _, _ => none
  | n + 1, x3, x4, x5, x6, M =>
    (if (4 : Int32) ≤ x6 then
    F_X12_written_b77 fu x1 x2 k5 x3 x4 x5 M
    else
    (if x2 = (1 : Int32) then
    (if x5 = 0 then
    (F_X12_isRead x6 x4 M).bind fun q1 =>
    (if q1.1 = 0 then
    F_X12_written_b68 fu x1 x2 k5 (F_X12_written_b18 fu x1 x2 k5 n) x3 x4 x6 q1.2
    else
    (F_X12_goesOf fu (((30 : Int32) * x6) + x4) q1.2).bind fun q2 =>
    (if (P_X12_has q2.1 x1 q2.2) = 0 then
    F_X12_written_b68 fu x1 x2 k5 (F_X12_written_b18 fu x1 x2 k5 n) x3 x4 x6 q2.2
    else
    F_X12_written_b64 fu x1 x2 k5 (F_X12_written_b18 fu x1 x2 k5 n) x3 x4 x6 q2.2))
    else
    F_X12_written_b64 fu x1 x2 k5 (F_X12_written_b18 fu x1 x2 k5 n) x3 x4 x6 M)
    else
    F_X12_written_b77 fu x1 x2 k5 x3 x4 x5 M))
set_option maxRecDepth 100000 in
set_option maxHeartbeats 4000000 in
theorem a_X12_written_b18 {l : Launch} (fu : Nat) (x1 : Int32) (x2 : Int32)  {k5 : Int32 → Int32 → xM → Option (Int32 × xM)} (hk5 : ∀ (b0 : Int32) (b1 : Int32) (M : xM), AW SM l RX12 cX12_written 7 (some .int) 5 ki (k5 b0 b1 M) 5 [some (xr 0), some (xi x1), some (xi x2), some (xi b0), some (xi b1), none, none] [] M) : ∀ (n : Nat) (x3 : Int32) (x4 : Int32) (x5 : Int32) (x6 : Int32) (M : xM), AW SM l RX12 cX12_written 7 (some .int) 5 ki (F_X12_written_b18 fu x1 x2 k5 n x3 x4 x5 x6 M) 18 [some (xr 0), some (xi x1), some (xi x2), some (xi x3), some (xi x4), some (xi x5), some (xi x6)] [] M := by
  intro n
  induction n with
  | zero =>
    intro x3 x4 x5 x6 M
    exact AW.none
  | succ n ih =>
    intro x3 x4 x5 x6 M
    rw [F_X12_written_b18]
    refine A_iload dX12_written_18 rfl ?_
    refine A_iconst (v := (4 : Int32)) dX12_written_20 oI_4 ?_
    refine A_icmp_ge (tgt := 77) dX12_written_21 (by decide) (fun _ => ?_) (fun _ => ?_)
    · exact (a_X12_written_b77 (l := l) fu x1 x2 hk5 _ _ _ _ ).sub ⟨rfl, rfl, rfl, rfl, rfl, rfl, trivial⟩
    · refine A_iload_n dX12_written_24 rfl ?_
      refine A_iconst (v := (1 : Int32)) dX12_written_25 oI_1 ?_
      refine A_icmp_ne (tgt := 77) dX12_written_26 (by decide) (fun _ => ?_) (fun _ => ?_)
      · refine A_iload dX12_written_29 rfl ?_
        refine A_if_ne (tgt := 64) dX12_written_31 (by decide) (fun _ => ?_) (fun _ => ?_)
        · refine A_aload_n dX12_written_34 rfl ?_
          refine A_iload dX12_written_35 rfl ?_
          refine A_iload dX12_written_37 rfl ?_
          refine A_callVi (a_X12_isRead (l := l) _ _ _ ) lc_X12_465 rfl rfl (by decide) (Nat.le_of_ble_eq_true rfl) rfl dX12_written_39 (fun q1 Mq1 hq1 => ?_)
          refine A_if_eq (tgt := 68) dX12_written_42 (by decide) (fun _ => ?_) (fun _ => ?_)
          · exact (a_X12_written_b68 (l := l) fu x1 x2 hk5 ih _ _ _ _ ).sub ⟨rfl, rfl, rfl, rfl, rfl, rfl, trivial⟩
          · refine A_aload_n dX12_written_45 rfl ?_
            refine A_bipush (v := (30 : Int32)) dX12_written_46 oB_30 ?_
            refine A_iload dX12_written_48 rfl ?_
            refine A_imul dX12_written_50 ?_
            refine A_iload dX12_written_51 rfl ?_
            refine A_iadd dX12_written_53 ?_
            refine A_callVi (a_X12_goesOf (l := l) fu _ _ ) lc_X12_471 rfl rfl (by decide) (Nat.le_of_ble_eq_true rfl) rfl dX12_written_54 (fun q2 Mq2 hq2 => ?_)
            refine A_iload_n dX12_written_57 rfl ?_
            refine A_callSp (a_X12_has (l := l) _ _ _ ) lc_X12_200 rfl (by decide) (Nat.le_of_ble_eq_true rfl) rfl dX12_written_58 ?_
            refine A_if_eq (tgt := 68) dX12_written_61 (by decide) (fun _ => ?_) (fun _ => ?_)
            · exact (a_X12_written_b68 (l := l) fu x1 x2 hk5 ih _ _ _ _ ).sub ⟨rfl, rfl, rfl, rfl, rfl, rfl, trivial⟩
            · exact (a_X12_written_b64 (l := l) fu x1 x2 hk5 ih _ _ _ _ ).sub ⟨rfl, rfl, rfl, rfl, rfl, rfl, trivial⟩
        · exact (a_X12_written_b64 (l := l) fu x1 x2 hk5 ih _ _ _ _ ).sub ⟨rfl, rfl, rfl, rfl, rfl, rfl, trivial⟩
      · exact (a_X12_written_b77 (l := l) fu x1 x2 hk5 _ _ _ _ ).sub ⟨rfl, rfl, rfl, rfl, rfl, rfl, trivial⟩
def F_X12_written_b5 (fu : Nat)  (x1 : Int32) (x2 : Int32)  : Nat → Int32 → Int32 → xM → Option (Int32 × xM)
  | 0, _, _, _ => none
  | n + 1, x3, x4, M =>
    (if (30 : Int32) ≤ x4 then
    some (x3, M)
    else
    F_X12_written_b18 fu x1 x2 (F_X12_written_b5 fu x1 x2 n) fu x3 x4 (0 : Int32) (0 : Int32) M)
set_option maxRecDepth 100000 in
set_option maxHeartbeats 4000000 in
theorem a_X12_written_b5 {l : Launch} (fu : Nat) (x1 : Int32) (x2 : Int32)    : ∀ (n : Nat) (x3 : Int32) (x4 : Int32) (M : xM), AW SM l RX12 cX12_written 7 (some .int) 5 ki (F_X12_written_b5 fu x1 x2 n x3 x4 M) 5 [some (xr 0), some (xi x1), some (xi x2), some (xi x3), some (xi x4), none, none] [] M := by
  intro n
  induction n with
  | zero =>
    intro x3 x4 M
    exact AW.none
  | succ n ih =>
    intro x3 x4 M
    rw [F_X12_written_b5]
    refine A_iload dX12_written_5 rfl ?_
    refine A_bipush (v := (30 : Int32)) dX12_written_7 oB_30 ?_
    refine A_icmp_ge (tgt := 113) dX12_written_9 (by decide) (fun _ => ?_) (fun _ => ?_)
    · refine A_iload_n dX12_written_113 rfl ?_
      exact A_iret rfl dX12_written_114
    · refine A_iconst (v := (0 : Int32)) dX12_written_12 oI_0 ?_
      refine A_istore dX12_written_13 (Nat.le_of_ble_eq_true rfl) rfl ?_
      refine A_iconst (v := (0 : Int32)) dX12_written_15 oI_0 ?_
      refine A_istore dX12_written_16 (Nat.le_of_ble_eq_true rfl) rfl ?_
      exact (a_X12_written_b18 (l := l) fu x1 x2 ih fu _ _ _ _ _).sub ⟨rfl, rfl, rfl, rfl, rfl, rfl, rfl, trivial⟩
def F_X12_written (fu : Nat)  (x1 : Int32) (x2 : Int32)   (M : xM) : Option (Int32 × xM) :=
  F_X12_written_b5 fu x1 x2 fu (0 : Int32) (0 : Int32) M
set_option maxRecDepth 100000 in
set_option maxHeartbeats 4000000 in
theorem w_X12_written {l : Launch} (fu : Nat) (x1 : Int32) (x2 : Int32)     (M : xM)  : AW SM l RX12 cX12_written 7 (some .int) 5 ki (F_X12_written fu x1 x2  M) 0 [some (xr 0), some (xi x1), some (xi x2), none, none, none, none] [] M := by
  unfold F_X12_written
  refine A_iconst (v := (0 : Int32)) dX12_written_0 oI_0 ?_
  refine A_istore_n dX12_written_1 (Nat.le_of_ble_eq_true rfl) rfl ?_
  refine A_iconst (v := (0 : Int32)) dX12_written_2 oI_0 ?_
  refine A_istore dX12_written_3 (Nat.le_of_ble_eq_true rfl) rfl ?_
  exact (a_X12_written_b5 (l := l) fu x1 x2  fu _ _ _).sub ⟨rfl, rfl, rfl, rfl, rfl, trivial⟩
theorem a_X12_written {l : Launch} (fu : Nat)  (x1 : Int32) (x2 : Int32) (M : xM)  : AM SM l yX12_written cX12_written 7 (some .int) 5 ki [xr 0, xi x1, xi x2] M (F_X12_written fu x1 x2  M) :=
  AM.of (L0 := [some (xr 0), some (xi x1), some (xi x2), none, none, none, none]) (w_X12_written (l := l) fu x1 x2  M ) (by decide +kernel) rfl (Nat.le_of_ble_eq_true rfl) ⟨rfl, rfl, rfl, trivial⟩
def F_X12_writtenFor (fu : Nat)  (x1 : Int32) (x2 : Int32)   (M : xM) : Option (Int32 × xM) :=
  (if (P_X12_isIn x1 (0 : Int32) (((xset M 0 0 (0 : Int32)) 0 58) - (1 : Int32)) (xset M 0 0 (0 : Int32))) = 0 then
  some ((-1 : Int32), (xset M 0 0 (0 : Int32)))
  else
  (if (P_X12_isIn x2 (0 : Int32) (1 : Int32) (xset M 0 0 (0 : Int32))) = 0 then
  some ((-1 : Int32), (xset M 0 0 (0 : Int32)))
  else
  (F_X12_written fu x1 x2 (xset M 0 0 (0 : Int32))).bind fun q1 =>
  some (q1.1, q1.2)))
set_option maxRecDepth 100000 in
set_option maxHeartbeats 4000000 in
theorem w_X12_writtenFor {l : Launch} (fu : Nat) (x1 : Int32) (x2 : Int32)     (M : xM)  : AW SM l RX12 cX12_writtenFor 3 (some .int) 6 ki (F_X12_writtenFor fu x1 x2  M) 0 [some (xr 0), some (xi x1), some (xi x2)] [] M := by
  unfold F_X12_writtenFor
  refine A_aload_n dX12_writtenFor_0 rfl ?_
  refine A_iconst (v := (0 : Int32)) dX12_writtenFor_1 oI_0 ?_
  refine A_puti lf_X12_180 rfl rfl dX12_writtenFor_2 ?_
  refine A_iload_n dX12_writtenFor_5 rfl ?_
  refine A_iconst (v := (0 : Int32)) dX12_writtenFor_6 oI_0 ?_
  refine A_aload_n dX12_writtenFor_7 rfl ?_
  refine A_geti lf_X12_452 rfl rfl dX12_writtenFor_8 ?_
  refine A_iconst (v := (1 : Int32)) dX12_writtenFor_11 oI_1 ?_
  refine A_isub dX12_writtenFor_12 ?_
  refine A_callSp (a_X12_isIn (l := l) _ _ _ _ ) lc_X12_196 rfl (by decide) (Nat.le_of_ble_eq_true rfl) rfl dX12_writtenFor_13 ?_
  refine A_if_eq (tgt := 37) dX12_writtenFor_16 (by decide) (fun _ => ?_) (fun _ => ?_)
  · refine A_iconst (v := (-1 : Int32)) dX12_writtenFor_37 oI_m1 ?_
    exact A_iret rfl dX12_writtenFor_38
  · refine A_iload_n dX12_writtenFor_19 rfl ?_
    refine A_iconst (v := (0 : Int32)) dX12_writtenFor_20 oI_0 ?_
    refine A_iconst (v := (1 : Int32)) dX12_writtenFor_21 oI_1 ?_
    refine A_callSp (a_X12_isIn (l := l) _ _ _ _ ) lc_X12_196 rfl (by decide) (Nat.le_of_ble_eq_true rfl) rfl dX12_writtenFor_22 ?_
    refine A_if_eq (tgt := 37) dX12_writtenFor_25 (by decide) (fun _ => ?_) (fun _ => ?_)
    · refine A_iconst (v := (-1 : Int32)) dX12_writtenFor_37 oI_m1 ?_
      exact A_iret rfl dX12_writtenFor_38
    · refine A_aload_n dX12_writtenFor_28 rfl ?_
      refine A_iload_n dX12_writtenFor_29 rfl ?_
      refine A_iload_n dX12_writtenFor_30 rfl ?_
      refine A_callVi (a_X12_written (l := l) fu _ _ _ ) lc_X12_489 rfl rfl (by decide) (Nat.le_of_ble_eq_true rfl) rfl dX12_writtenFor_31 (fun q1 Mq1 hq1 => ?_)
      refine A_goto (tgt := 38) dX12_writtenFor_34 (by decide) ?_
      exact A_iret rfl dX12_writtenFor_38
theorem a_X12_writtenFor {l : Launch} (fu : Nat)  (x1 : Int32) (x2 : Int32) (M : xM)  : AM SM l yX12_writtenFor cX12_writtenFor 3 (some .int) 6 ki [xr 0, xi x1, xi x2] M (F_X12_writtenFor fu x1 x2  M) :=
  AM.of (L0 := [some (xr 0), some (xi x1), some (xi x2)]) (w_X12_writtenFor (l := l) fu x1 x2  M ) (by decide +kernel) rfl (Nat.le_of_ble_eq_true rfl) ⟨rfl, rfl, rfl, trivial⟩
def F_X12_elected_b56 (fu : Nat)   (k7 : Int32 → xM → Option (Int32 × xM)) (k19 : Int32 → Int32 → Int32 → xM → Option (Int32 × xM)) (x1 : Int32) (x3 : Int32) (s0 : Int32) (M : xM) : Option (Int32 × xM) :=
  k19 x1 s0 (x3 + (1 : Int32)) M
set_option maxRecDepth 100000 in
set_option maxHeartbeats 4000000 in
theorem a_X12_elected_b56 {l : Launch} (fu : Nat)   {k7 : Int32 → xM → Option (Int32 × xM)} {k19 : Int32 → Int32 → Int32 → xM → Option (Int32 × xM)} (hk7 : ∀ (b0 : Int32) (M : xM), AW SM l RX12 cX12_elected 4 (some .int) 6 ki (k7 b0 M) 7 [some (xr 0), some (xi b0), none, none] [] M) (hk19 : ∀ (b0 : Int32) (b1 : Int32) (b2 : Int32) (M : xM), AW SM l RX12 cX12_elected 4 (some .int) 6 ki (k19 b0 b1 b2 M) 19 [some (xr 0), some (xi b0), some (xi b1), some (xi b2)] [] M) (x1 : Int32) (x3 : Int32) (s0 : Int32) (M : xM)  : AW SM l RX12 cX12_elected 4 (some .int) 6 ki (F_X12_elected_b56 fu k7 k19 x1 x3 s0 M) 56 [some (xr 0), some (xi x1), none, some (xi x3)] [xi s0] M := by
  unfold F_X12_elected_b56
  refine A_istore_n dX12_elected_56 (Nat.le_of_ble_eq_true rfl) rfl ?_
  refine A_iinc dX12_elected_57 rfl oI_1 (Nat.le_of_ble_eq_true rfl) rfl ?_
  refine A_goto (tgt := 19) dX12_elected_60 (by decide) ?_
  exact (hk19 _ _ _ _).sub ⟨rfl, rfl, rfl, rfl, trivial⟩
def F_X12_elected_b51 (fu : Nat)   (k7 : Int32 → xM → Option (Int32 × xM)) (k19 : Int32 → Int32 → Int32 → xM → Option (Int32 × xM)) (x1 : Int32) (x3 : Int32) (M : xM) : Option (Int32 × xM) :=
  F_X12_elected_b56 fu k7 k19 x1 x3 (1 : Int32) M
set_option maxRecDepth 100000 in
set_option maxHeartbeats 4000000 in
theorem a_X12_elected_b51 {l : Launch} (fu : Nat)   {k7 : Int32 → xM → Option (Int32 × xM)} {k19 : Int32 → Int32 → Int32 → xM → Option (Int32 × xM)} (hk7 : ∀ (b0 : Int32) (M : xM), AW SM l RX12 cX12_elected 4 (some .int) 6 ki (k7 b0 M) 7 [some (xr 0), some (xi b0), none, none] [] M) (hk19 : ∀ (b0 : Int32) (b1 : Int32) (b2 : Int32) (M : xM), AW SM l RX12 cX12_elected 4 (some .int) 6 ki (k19 b0 b1 b2 M) 19 [some (xr 0), some (xi b0), some (xi b1), some (xi b2)] [] M) (x1 : Int32) (x3 : Int32) (M : xM)  : AW SM l RX12 cX12_elected 4 (some .int) 6 ki (F_X12_elected_b51 fu k7 k19 x1 x3 M) 51 [some (xr 0), some (xi x1), none, some (xi x3)] [] M := by
  unfold F_X12_elected_b51
  refine A_iconst (v := (1 : Int32)) dX12_elected_51 oI_1 ?_
  refine A_goto (tgt := 56) dX12_elected_52 (by decide) ?_
  exact (a_X12_elected_b56 (l := l) fu hk7 hk19 _ _ _ _ ).sub ⟨rfl, rfl, rfl, trivial⟩
def F_X12_elected_b55 (fu : Nat)   (k7 : Int32 → xM → Option (Int32 × xM)) (k19 : Int32 → Int32 → Int32 → xM → Option (Int32 × xM)) (x1 : Int32) (x3 : Int32) (M : xM) : Option (Int32 × xM) :=
  F_X12_elected_b56 fu k7 k19 x1 x3 (0 : Int32) M
set_option maxRecDepth 100000 in
set_option maxHeartbeats 4000000 in
theorem a_X12_elected_b55 {l : Launch} (fu : Nat)   {k7 : Int32 → xM → Option (Int32 × xM)} {k19 : Int32 → Int32 → Int32 → xM → Option (Int32 × xM)} (hk7 : ∀ (b0 : Int32) (M : xM), AW SM l RX12 cX12_elected 4 (some .int) 6 ki (k7 b0 M) 7 [some (xr 0), some (xi b0), none, none] [] M) (hk19 : ∀ (b0 : Int32) (b1 : Int32) (b2 : Int32) (M : xM), AW SM l RX12 cX12_elected 4 (some .int) 6 ki (k19 b0 b1 b2 M) 19 [some (xr 0), some (xi b0), some (xi b1), some (xi b2)] [] M) (x1 : Int32) (x3 : Int32) (M : xM)  : AW SM l RX12 cX12_elected 4 (some .int) 6 ki (F_X12_elected_b55 fu k7 k19 x1 x3 M) 55 [some (xr 0), some (xi x1), none, some (xi x3)] [] M := by
  unfold F_X12_elected_b55
  refine A_iconst (v := (0 : Int32)) dX12_elected_55 oI_0 ?_
  exact (a_X12_elected_b56 (l := l) fu hk7 hk19 _ _ _ _ ).sub ⟨rfl, rfl, rfl, trivial⟩
def F_X12_elected_b19 (fu : Nat)   (k7 : Int32 → xM → Option (Int32 × xM)) : Nat → Int32 → Int32 → Int32 → xM → Option (Int32 × xM)
  | 0, _, _, _, _ => none
  | n + 1, x1, x2, x3, M =>
    (if (M 0 58) ≤ x3 then
    (if x2 = 0 then
    k7 (x1 + (1 : Int32)) M
    else
    some (x1, M))
    else
    (if x2 = 0 then
    F_X12_elected_b55 fu k7 (F_X12_elected_b19 fu k7 n) x1 x3 M
    else
    (if x3 = x1 then
    F_X12_elected_b51 fu k7 (F_X12_elected_b19 fu k7 n) x1 x3 M
    else
    (F_X12_written fu x1 (0 : Int32) M).bind fun q1 =>
    (F_X12_written fu x3 (1 : Int32) q1.2).bind fun q2 =>
    (if q1.1 ≤ q2.1 then
    F_X12_elected_b55 fu k7 (F_X12_elected_b19 fu k7 n) x1 x3 q2.2
    else
    F_X12_elected_b51 fu k7 (F_X12_elected_b19 fu k7 n) x1 x3 q2.2))))
set_option maxRecDepth 100000 in
set_option maxHeartbeats 4000000 in
theorem a_X12_elected_b19 {l : Launch} (fu : Nat)   {k7 : Int32 → xM → Option (Int32 × xM)} (hk7 : ∀ (b0 : Int32) (M : xM), AW SM l RX12 cX12_elected 4 (some .int) 6 ki (k7 b0 M) 7 [some (xr 0), some (xi b0), none, none] [] M) : ∀ (n : Nat) (x1 : Int32) (x2 : Int32) (x3 : Int32) (M : xM), AW SM l RX12 cX12_elected 4 (some .int) 6 ki (F_X12_elected_b19 fu k7 n x1 x2 x3 M) 19 [some (xr 0), some (xi x1), some (xi x2), some (xi x3)] [] M := by
  intro n
  induction n with
  | zero =>
    intro x1 x2 x3 M
    exact AW.none
  | succ n ih =>
    intro x1 x2 x3 M
    rw [F_X12_elected_b19]
    refine A_iload_n dX12_elected_19 rfl ?_
    refine A_aload_n dX12_elected_20 rfl ?_
    refine A_geti lf_X12_452 rfl rfl dX12_elected_21 ?_
    refine A_icmp_ge (tgt := 63) dX12_elected_24 (by decide) (fun _ => ?_) (fun _ => ?_)
    · refine A_iload_n dX12_elected_63 rfl ?_
      refine A_if_eq (tgt := 69) dX12_elected_64 (by decide) (fun _ => ?_) (fun _ => ?_)
      · refine A_iinc dX12_elected_69 rfl oI_1 (Nat.le_of_ble_eq_true rfl) rfl ?_
        refine A_goto (tgt := 7) dX12_elected_72 (by decide) ?_
        exact (hk7 _ _).sub ⟨rfl, rfl, trivial⟩
      · refine A_iload_n dX12_elected_67 rfl ?_
        exact A_iret rfl dX12_elected_68
    · refine A_iload_n dX12_elected_27 rfl ?_
      refine A_if_eq (tgt := 55) dX12_elected_28 (by decide) (fun _ => ?_) (fun _ => ?_)
      · exact (a_X12_elected_b55 (l := l) fu hk7 ih _ _ _ ).sub ⟨rfl, rfl, rfl, trivial⟩
      · refine A_iload_n dX12_elected_31 rfl ?_
        refine A_iload_n dX12_elected_32 rfl ?_
        refine A_icmp_eq (tgt := 51) dX12_elected_33 (by decide) (fun _ => ?_) (fun _ => ?_)
        · exact (a_X12_elected_b51 (l := l) fu hk7 ih _ _ _ ).sub ⟨rfl, rfl, rfl, trivial⟩
        · refine A_aload_n dX12_elected_36 rfl ?_
          refine A_iload_n dX12_elected_37 rfl ?_
          refine A_iconst (v := (0 : Int32)) dX12_elected_38 oI_0 ?_
          refine A_callVi (a_X12_written (l := l) fu _ _ _ ) lc_X12_489 rfl rfl (by decide) (Nat.le_of_ble_eq_true rfl) rfl dX12_elected_39 (fun q1 Mq1 hq1 => ?_)
          refine A_aload_n dX12_elected_42 rfl ?_
          refine A_iload_n dX12_elected_43 rfl ?_
          refine A_iconst (v := (1 : Int32)) dX12_elected_44 oI_1 ?_
          refine A_callVi (a_X12_written (l := l) fu _ _ _ ) lc_X12_489 rfl rfl (by decide) (Nat.le_of_ble_eq_true rfl) rfl dX12_elected_45 (fun q2 Mq2 hq2 => ?_)
          refine A_icmp_le (tgt := 55) dX12_elected_48 (by decide) (fun _ => ?_) (fun _ => ?_)
          · exact (a_X12_elected_b55 (l := l) fu hk7 ih _ _ _ ).sub ⟨rfl, rfl, rfl, trivial⟩
          · exact (a_X12_elected_b51 (l := l) fu hk7 ih _ _ _ ).sub ⟨rfl, rfl, rfl, trivial⟩
def F_X12_elected_b7 (fu : Nat)    : Nat → Int32 → xM → Option (Int32 × xM)
  | 0, _, _ => none
  | n + 1, x1, M =>
    (if (M 0 58) ≤ x1 then
    some ((-1 : Int32), M)
    else
    F_X12_elected_b19 fu (F_X12_elected_b7 fu n) fu x1 (1 : Int32) (0 : Int32) M)
set_option maxRecDepth 100000 in
set_option maxHeartbeats 4000000 in
theorem a_X12_elected_b7 {l : Launch} (fu : Nat)     : ∀ (n : Nat) (x1 : Int32) (M : xM), AW SM l RX12 cX12_elected 4 (some .int) 6 ki (F_X12_elected_b7 fu n x1 M) 7 [some (xr 0), some (xi x1), none, none] [] M := by
  intro n
  induction n with
  | zero =>
    intro x1 M
    exact AW.none
  | succ n ih =>
    intro x1 M
    rw [F_X12_elected_b7]
    refine A_iload_n dX12_elected_7 rfl ?_
    refine A_aload_n dX12_elected_8 rfl ?_
    refine A_geti lf_X12_452 rfl rfl dX12_elected_9 ?_
    refine A_icmp_ge (tgt := 75) dX12_elected_12 (by decide) (fun _ => ?_) (fun _ => ?_)
    · refine A_iconst (v := (-1 : Int32)) dX12_elected_75 oI_m1 ?_
      exact A_iret rfl dX12_elected_76
    · refine A_iconst (v := (1 : Int32)) dX12_elected_15 oI_1 ?_
      refine A_istore_n dX12_elected_16 (Nat.le_of_ble_eq_true rfl) rfl ?_
      refine A_iconst (v := (0 : Int32)) dX12_elected_17 oI_0 ?_
      refine A_istore_n dX12_elected_18 (Nat.le_of_ble_eq_true rfl) rfl ?_
      exact (a_X12_elected_b19 (l := l) fu ih fu _ _ _ _).sub ⟨rfl, rfl, rfl, rfl, trivial⟩
def F_X12_elected (fu : Nat)     (M : xM) : Option (Int32 × xM) :=
  F_X12_elected_b7 fu fu (0 : Int32) (xset M 0 0 (0 : Int32))
set_option maxRecDepth 100000 in
set_option maxHeartbeats 4000000 in
theorem w_X12_elected {l : Launch} (fu : Nat)      (M : xM)  : AW SM l RX12 cX12_elected 4 (some .int) 6 ki (F_X12_elected fu  M) 0 [some (xr 0), none, none, none] [] M := by
  unfold F_X12_elected
  refine A_aload_n dX12_elected_0 rfl ?_
  refine A_iconst (v := (0 : Int32)) dX12_elected_1 oI_0 ?_
  refine A_puti lf_X12_180 rfl rfl dX12_elected_2 ?_
  refine A_iconst (v := (0 : Int32)) dX12_elected_5 oI_0 ?_
  refine A_istore_n dX12_elected_6 (Nat.le_of_ble_eq_true rfl) rfl ?_
  exact (a_X12_elected_b7 (l := l) fu  fu _ _).sub ⟨rfl, rfl, trivial⟩
theorem a_X12_elected {l : Launch} (fu : Nat)   (M : xM)  : AM SM l yX12_elected cX12_elected 4 (some .int) 6 ki [xr 0] M (F_X12_elected fu   M) :=
  AM.of (L0 := [some (xr 0), none, none, none]) (w_X12_elected (l := l) fu  M ) (by decide +kernel) rfl (Nat.le_of_ble_eq_true rfl) ⟨rfl, trivial⟩
def F_X12_absent  (x1 : Int32) (x2 : Int32) (x3 : Int32)   (M : xM) : Option (Int32 × xM) :=
  (if (P_X12_isLever x1 (xset M 0 0 (0 : Int32))) = 0 then
  some ((0 : Int32), (xset M 0 0 (0 : Int32)))
  else
  (if (P_X12_isIn x2 (0 : Int32) (9999 : Int32) (xset M 0 0 (0 : Int32))) = 0 then
  some ((0 : Int32), (xset M 0 0 (0 : Int32)))
  else
  (if (P_X12_isIn x3 x2 (9999 : Int32) (xset M 0 0 (0 : Int32))) = 0 then
  some ((0 : Int32), (xset M 0 0 (0 : Int32)))
  else
  (if x1 < 0 ∨ 16 ≤ x1.toNatClampNeg then none else
  (if x1 < 0 ∨ 16 ≤ x1.toNatClampNeg then none else
  some ((1 : Int32), (xset (xset (xset M 0 0 (0 : Int32)) 36 x1.toNatClampNeg x2) 37 x1.toNatClampNeg x3)))))))
set_option maxRecDepth 100000 in
set_option maxHeartbeats 4000000 in
theorem w_X12_absent {l : Launch} (x1 : Int32) (x2 : Int32) (x3 : Int32)     (M : xM)  : AW SM l RX12 cX12_absent 4 (some .boolean) 1 ki (F_X12_absent x1 x2 x3  M) 0 [some (xr 0), some (xi x1), some (xi x2), some (xi x3)] [] M := by
  unfold F_X12_absent
  refine A_aload_n dX12_absent_0 rfl ?_
  refine A_iconst (v := (0 : Int32)) dX12_absent_1 oI_0 ?_
  refine A_puti lf_X12_180 rfl rfl dX12_absent_2 ?_
  refine A_aload_n dX12_absent_5 rfl ?_
  refine A_iload_n dX12_absent_6 rfl ?_
  refine A_callVp (a_X12_isLever (l := l) _ _ ) lc_X12_343 rfl rfl (by decide) (Nat.le_of_ble_eq_true rfl) rfl dX12_absent_7 ?_
  refine A_if_eq (tgt := 35) dX12_absent_10 (by decide) (fun _ => ?_) (fun _ => ?_)
  · refine A_iconst (v := (0 : Int32)) dX12_absent_35 oI_0 ?_
    exact A_zret' rfl (Or.inl rfl) dX12_absent_36
  · refine A_iload_n dX12_absent_13 rfl ?_
    refine A_iconst (v := (0 : Int32)) dX12_absent_14 oI_0 ?_
    refine A_sipush (v := (9999 : Int32)) dX12_absent_15 oS_9999 ?_
    refine A_callSp (a_X12_isIn (l := l) _ _ _ _ ) lc_X12_196 rfl (by decide) (Nat.le_of_ble_eq_true rfl) rfl dX12_absent_18 ?_
    refine A_if_eq (tgt := 35) dX12_absent_21 (by decide) (fun _ => ?_) (fun _ => ?_)
    · refine A_iconst (v := (0 : Int32)) dX12_absent_35 oI_0 ?_
      exact A_zret' rfl (Or.inl rfl) dX12_absent_36
    · refine A_iload_n dX12_absent_24 rfl ?_
      refine A_iload_n dX12_absent_25 rfl ?_
      refine A_sipush (v := (9999 : Int32)) dX12_absent_26 oS_9999 ?_
      refine A_callSp (a_X12_isIn (l := l) _ _ _ _ ) lc_X12_196 rfl (by decide) (Nat.le_of_ble_eq_true rfl) rfl dX12_absent_29 ?_
      refine A_if_ne (tgt := 37) dX12_absent_32 (by decide) (fun _ => ?_) (fun _ => ?_)
      · refine A_iconst (v := (0 : Int32)) dX12_absent_35 oI_0 ?_
        exact A_zret' rfl (Or.inl rfl) dX12_absent_36
      · refine A_aload_n dX12_absent_37 rfl ?_
        refine A_getr lf_X12_138 rfl rfl dX12_absent_38 ?_
        refine A_iload_n dX12_absent_41 rfl ?_
        refine A_iload_n dX12_absent_42 rfl ?_
        refine A_iast rfl dX12_absent_43 (fun _ => ?_)
        refine A_aload_n dX12_absent_44 rfl ?_
        refine A_getr lf_X12_141 rfl rfl dX12_absent_45 ?_
        refine A_iload_n dX12_absent_48 rfl ?_
        refine A_iload_n dX12_absent_49 rfl ?_
        refine A_iast rfl dX12_absent_50 (fun _ => ?_)
        refine A_iconst (v := (1 : Int32)) dX12_absent_51 oI_1 ?_
        exact A_zret' rfl (Or.inr rfl) dX12_absent_52
theorem a_X12_absent {l : Launch}  (x1 : Int32) (x2 : Int32) (x3 : Int32) (M : xM)  : AM SM l yX12_absent cX12_absent 4 (some .boolean) 1 ki [xr 0, xi x1, xi x2, xi x3] M (F_X12_absent  x1 x2 x3  M) :=
  AM.of (L0 := [some (xr 0), some (xi x1), some (xi x2), some (xi x3)]) (w_X12_absent (l := l) x1 x2 x3  M ) (by decide +kernel) rfl (Nat.le_of_ble_eq_true rfl) ⟨rfl, rfl, rfl, rfl, trivial⟩
def F_X12_joinedAhead (fu : Nat)  (x1 : Int32) (x2 : Int32)   (M : xM) : Option (Int32 × xM) :=
  (F_X12_ahead fu x1 x2 M).bind fun q1 =>
  (if q1.1 = (-100000 : Int32) then
  some ((-100000 : Int32), q1.2)
  else
  (if x1 < 0 ∨ 16 ≤ x1.toNatClampNeg then none else
  (if x2 < 0 ∨ 16 ≤ x2.toNatClampNeg then none else
  some (((q1.1 + (q1.2 36 x1.toNatClampNeg)) - (q1.2 37 x2.toNatClampNeg)), q1.2))))
set_option maxRecDepth 100000 in
set_option maxHeartbeats 4000000 in
theorem w_X12_joinedAhead {l : Launch} (fu : Nat) (x1 : Int32) (x2 : Int32)     (M : xM)  : AW SM l RX12 cX12_joinedAhead 4 (some .int) 81 ki (F_X12_joinedAhead fu x1 x2  M) 0 [some (xr 0), some (xi x1), some (xi x2), none] [] M := by
  unfold F_X12_joinedAhead
  refine A_aload_n dX12_joinedAhead_0 rfl ?_
  refine A_iload_n dX12_joinedAhead_1 rfl ?_
  refine A_iload_n dX12_joinedAhead_2 rfl ?_
  refine A_callVi (a_X12_ahead (l := l) fu _ _ _ ) lc_X12_492 rfl rfl (by decide) (Nat.le_of_ble_eq_true rfl) rfl dX12_joinedAhead_3 (fun q1 Mq1 hq1 => ?_)
  refine A_istore_n dX12_joinedAhead_6 (Nat.le_of_ble_eq_true rfl) rfl ?_
  refine A_iload_n dX12_joinedAhead_7 rfl ?_
  refine A_ldcw (v := (-100000 : Int32)) dX12_joinedAhead_8 lk_X12_391 ?_
  refine A_icmp_ne (tgt := 20) dX12_joinedAhead_11 (by decide) (fun _ => ?_) (fun _ => ?_)
  · refine A_ldcw (v := (-100000 : Int32)) dX12_joinedAhead_14 lk_X12_391 ?_
    refine A_goto (tgt := 35) dX12_joinedAhead_17 (by decide) ?_
    exact A_iret rfl dX12_joinedAhead_35
  · refine A_iload_n dX12_joinedAhead_20 rfl ?_
    refine A_aload_n dX12_joinedAhead_21 rfl ?_
    refine A_getr lf_X12_138 rfl rfl dX12_joinedAhead_22 ?_
    refine A_iload_n dX12_joinedAhead_25 rfl ?_
    refine A_iald rfl dX12_joinedAhead_26 (fun _ => ?_)
    refine A_iadd dX12_joinedAhead_27 ?_
    refine A_aload_n dX12_joinedAhead_28 rfl ?_
    refine A_getr lf_X12_141 rfl rfl dX12_joinedAhead_29 ?_
    refine A_iload_n dX12_joinedAhead_32 rfl ?_
    refine A_iald rfl dX12_joinedAhead_33 (fun _ => ?_)
    refine A_isub dX12_joinedAhead_34 ?_
    exact A_iret rfl dX12_joinedAhead_35
theorem a_X12_joinedAhead {l : Launch} (fu : Nat)  (x1 : Int32) (x2 : Int32) (M : xM)  : AM SM l yX12_joinedAhead cX12_joinedAhead 4 (some .int) 81 ki [xr 0, xi x1, xi x2] M (F_X12_joinedAhead fu x1 x2  M) :=
  AM.of (L0 := [some (xr 0), some (xi x1), some (xi x2), none]) (w_X12_joinedAhead (l := l) fu x1 x2  M ) (by decide +kernel) rfl (Nat.le_of_ble_eq_true rfl) ⟨rfl, rfl, rfl, trivial⟩
def F_X12_event_b112  (x1 : Int32) (x2 : Int32) (x3 : Int32) (x4 : Int32)  (x5 : Int32) (M : xM) : Option (Int32 × xM) :=
  (if x5 < 0 ∨ 120 ≤ x5.toNatClampNeg then none else
  (if x5 < 0 ∨ 120 ≤ x5.toNatClampNeg then none else
  (if x5 < 0 ∨ 120 ≤ x5.toNatClampNeg then none else
  (if x1 < 0 ∨ 6 ≤ x1.toNatClampNeg then none else
  (if x1 < 0 ∨ 6 ≤ x1.toNatClampNeg then none else
  (if x1 < 0 ∨ 6 ≤ x1.toNatClampNeg then none else
  some (((xset (xset (xset (xset M 39 x5.toNatClampNeg x2) 40 x5.toNatClampNeg x3) 41 x5.toNatClampNeg x4) 38 x1.toNatClampNeg (((xset (xset (xset M 39 x5.toNatClampNeg x2) 40 x5.toNatClampNeg x3) 41 x5.toNatClampNeg x4) 38 x1.toNatClampNeg) + (1 : Int32))) 38 x1.toNatClampNeg), (xset (xset (xset (xset M 39 x5.toNatClampNeg x2) 40 x5.toNatClampNeg x3) 41 x5.toNatClampNeg x4) 38 x1.toNatClampNeg (((xset (xset (xset M 39 x5.toNatClampNeg x2) 40 x5.toNatClampNeg x3) 41 x5.toNatClampNeg x4) 38 x1.toNatClampNeg) + (1 : Int32))))))))))
set_option maxRecDepth 100000 in
set_option maxHeartbeats 4000000 in
theorem a_X12_event_b112 {l : Launch} (x1 : Int32) (x2 : Int32) (x3 : Int32) (x4 : Int32)    (x5 : Int32) (M : xM)  : AW SM l RX12 cX12_event 6 (some .int) 1 ki (F_X12_event_b112 x1 x2 x3 x4 x5 M) 112 [some (xr 0), some (xi x1), some (xi x2), some (xi x3), some (xi x4), some (xi x5)] [] M := by
  unfold F_X12_event_b112
  refine A_aload_n dX12_event_112 rfl ?_
  refine A_getr lf_X12_147 rfl rfl dX12_event_113 ?_
  refine A_iload dX12_event_116 rfl ?_
  refine A_iload_n dX12_event_118 rfl ?_
  refine A_iast rfl dX12_event_119 (fun _ => ?_)
  refine A_aload_n dX12_event_120 rfl ?_
  refine A_getr lf_X12_150 rfl rfl dX12_event_121 ?_
  refine A_iload dX12_event_124 rfl ?_
  refine A_iload_n dX12_event_126 rfl ?_
  refine A_iast rfl dX12_event_127 (fun _ => ?_)
  refine A_aload_n dX12_event_128 rfl ?_
  refine A_getr lf_X12_153 rfl rfl dX12_event_129 ?_
  refine A_iload dX12_event_132 rfl ?_
  refine A_iload dX12_event_134 rfl ?_
  refine A_iast rfl dX12_event_136 (fun _ => ?_)
  refine A_aload_n dX12_event_137 rfl ?_
  refine A_getr lf_X12_144 rfl rfl dX12_event_138 ?_
  refine A_iload_n dX12_event_141 rfl ?_
  refine A_dup2 dX12_event_142 rfl rfl ?_
  refine A_iald rfl dX12_event_143 (fun _ => ?_)
  refine A_iconst (v := (1 : Int32)) dX12_event_144 oI_1 ?_
  refine A_iadd dX12_event_145 ?_
  refine A_iast rfl dX12_event_146 (fun _ => ?_)
  refine A_aload_n dX12_event_147 rfl ?_
  refine A_getr lf_X12_144 rfl rfl dX12_event_148 ?_
  refine A_iload_n dX12_event_151 rfl ?_
  refine A_iald rfl dX12_event_152 (fun _ => ?_)
  exact A_iret rfl dX12_event_153
def F_X12_event_b75  (x1 : Int32) (x2 : Int32) (x3 : Int32) (x4 : Int32)   (M : xM) : Option (Int32 × xM) :=
  (if x1 < 0 ∨ 6 ≤ x1.toNatClampNeg then none else
  (if x1 < 0 ∨ 6 ≤ x1.toNatClampNeg then none else
  (if (M 38 x1.toNatClampNeg) ≤ 0 then
  F_X12_event_b112 x1 x2 x3 x4 (((20 : Int32) * x1) + (M 38 x1.toNatClampNeg)) M
  else
  (if ((((20 : Int32) * x1) + (M 38 x1.toNatClampNeg)) - (1 : Int32)) < 0 ∨ 120 ≤ ((((20 : Int32) * x1) + (M 38 x1.toNatClampNeg)) - (1 : Int32)).toNatClampNeg then none else
  (if (M 39 ((((20 : Int32) * x1) + (M 38 x1.toNatClampNeg)) - (1 : Int32)).toNatClampNeg) ≤ x2 then
  F_X12_event_b112 x1 x2 x3 x4 (((20 : Int32) * x1) + (M 38 x1.toNatClampNeg)) M
  else
  some ((-1 : Int32), M))))))
set_option maxRecDepth 100000 in
set_option maxHeartbeats 4000000 in
theorem a_X12_event_b75 {l : Launch} (x1 : Int32) (x2 : Int32) (x3 : Int32) (x4 : Int32)     (M : xM)  : AW SM l RX12 cX12_event 6 (some .int) 1 ki (F_X12_event_b75 x1 x2 x3 x4  M) 75 [some (xr 0), some (xi x1), some (xi x2), some (xi x3), some (xi x4), none] [] M := by
  unfold F_X12_event_b75
  refine A_bipush (v := (20 : Int32)) dX12_event_75 oB_20 ?_
  refine A_iload_n dX12_event_77 rfl ?_
  refine A_imul dX12_event_78 ?_
  refine A_aload_n dX12_event_79 rfl ?_
  refine A_getr lf_X12_144 rfl rfl dX12_event_80 ?_
  refine A_iload_n dX12_event_83 rfl ?_
  refine A_iald rfl dX12_event_84 (fun _ => ?_)
  refine A_iadd dX12_event_85 ?_
  refine A_istore dX12_event_86 (Nat.le_of_ble_eq_true rfl) rfl ?_
  refine A_aload_n dX12_event_88 rfl ?_
  refine A_getr lf_X12_144 rfl rfl dX12_event_89 ?_
  refine A_iload_n dX12_event_92 rfl ?_
  refine A_iald rfl dX12_event_93 (fun _ => ?_)
  refine A_if_le (tgt := 112) dX12_event_94 (by decide) (fun _ => ?_) (fun _ => ?_)
  · exact (a_X12_event_b112 (l := l) x1 x2 x3 x4  _ _ ).sub ⟨rfl, rfl, rfl, rfl, rfl, rfl, trivial⟩
  · refine A_iload_n dX12_event_97 rfl ?_
    refine A_aload_n dX12_event_98 rfl ?_
    refine A_getr lf_X12_147 rfl rfl dX12_event_99 ?_
    refine A_iload dX12_event_102 rfl ?_
    refine A_iconst (v := (1 : Int32)) dX12_event_104 oI_1 ?_
    refine A_isub dX12_event_105 ?_
    refine A_iald rfl dX12_event_106 (fun _ => ?_)
    refine A_icmp_ge (tgt := 112) dX12_event_107 (by decide) (fun _ => ?_) (fun _ => ?_)
    · exact (a_X12_event_b112 (l := l) x1 x2 x3 x4  _ _ ).sub ⟨rfl, rfl, rfl, rfl, rfl, rfl, trivial⟩
    · refine A_iconst (v := (-1 : Int32)) dX12_event_110 oI_m1 ?_
      exact A_iret rfl dX12_event_111
def F_X12_event_b67  (x1 : Int32) (x2 : Int32) (x3 : Int32) (x4 : Int32)  (s0 : Int32) (s1 : Int32) (s2 : Int32) (M : xM) : Option (Int32 × xM) :=
  (if (P_X12_isIn s2 s1 s0 M) = 0 then
  some ((-1 : Int32), M)
  else
  F_X12_event_b75 x1 x2 x3 x4  M)
set_option maxRecDepth 100000 in
set_option maxHeartbeats 4000000 in
theorem a_X12_event_b67 {l : Launch} (x1 : Int32) (x2 : Int32) (x3 : Int32) (x4 : Int32)    (s0 : Int32) (s1 : Int32) (s2 : Int32) (M : xM)  : AW SM l RX12 cX12_event 6 (some .int) 1 ki (F_X12_event_b67 x1 x2 x3 x4 s0 s1 s2 M) 67 [some (xr 0), some (xi x1), some (xi x2), some (xi x3), some (xi x4), none] [xi s0, xi s1, xi s2] M := by
  unfold F_X12_event_b67
  refine A_callSp (a_X12_isIn (l := l) _ _ _ _ ) lc_X12_196 rfl (by decide) (Nat.le_of_ble_eq_true rfl) rfl dX12_event_67 ?_
  refine A_if_ne (tgt := 75) dX12_event_70 (by decide) (fun _ => ?_) (fun _ => ?_)
  · refine A_iconst (v := (-1 : Int32)) dX12_event_73 oI_m1 ?_
    exact A_iret rfl dX12_event_74
  · exact (a_X12_event_b75 (l := l) x1 x2 x3 x4   _ ).sub ⟨rfl, rfl, rfl, rfl, rfl, trivial⟩
def F_X12_event  (x1 : Int32) (x2 : Int32) (x3 : Int32) (x4 : Int32)   (M : xM) : Option (Int32 × xM) :=
  (if (P_X12_isMachine x1 (xset M 0 0 (0 : Int32))) = 0 then
  some ((-1 : Int32), (xset M 0 0 (0 : Int32)))
  else
  (if x1 < 0 ∨ 6 ≤ x1.toNatClampNeg then none else
  (if ((xset M 0 0 (0 : Int32)) 38 x1.toNatClampNeg) = (20 : Int32) then
  some ((-1 : Int32), (xset M 0 0 (0 : Int32)))
  else
  (if (P_X12_isIn x2 (0 : Int32) (9999 : Int32) (xset M 0 0 (0 : Int32))) = 0 then
  some ((-1 : Int32), (xset M 0 0 (0 : Int32)))
  else
  (if (P_X12_isIn x3 (0 : Int32) (3 : Int32) (xset M 0 0 (0 : Int32))) = 0 then
  some ((-1 : Int32), (xset M 0 0 (0 : Int32)))
  else
  (if x3 = (2 : Int32) then
  F_X12_event_b75 x1 x2 x3 x4  (xset M 0 0 (0 : Int32))
  else
  (if x3 = (3 : Int32) then
  F_X12_event_b67 x1 x2 x3 x4 (9 : Int32) (0 : Int32) x4 (xset M 0 0 (0 : Int32))
  else
  F_X12_event_b67 x1 x2 x3 x4 (9999 : Int32) (0 : Int32) x4 (xset M 0 0 (0 : Int32)))))))))
set_option maxRecDepth 100000 in
set_option maxHeartbeats 4000000 in
theorem w_X12_event {l : Launch} (x1 : Int32) (x2 : Int32) (x3 : Int32) (x4 : Int32)     (M : xM)  : AW SM l RX12 cX12_event 6 (some .int) 1 ki (F_X12_event x1 x2 x3 x4  M) 0 [some (xr 0), some (xi x1), some (xi x2), some (xi x3), some (xi x4), none] [] M := by
  unfold F_X12_event
  refine A_aload_n dX12_event_0 rfl ?_
  refine A_iconst (v := (0 : Int32)) dX12_event_1 oI_0 ?_
  refine A_puti lf_X12_180 rfl rfl dX12_event_2 ?_
  refine A_aload_n dX12_event_5 rfl ?_
  refine A_iload_n dX12_event_6 rfl ?_
  refine A_callVp (a_X12_isMachine (l := l) _ _ ) lc_X12_337 rfl rfl (by decide) (Nat.le_of_ble_eq_true rfl) rfl dX12_event_7 ?_
  refine A_if_eq (tgt := 44) dX12_event_10 (by decide) (fun _ => ?_) (fun _ => ?_)
  · refine A_iconst (v := (-1 : Int32)) dX12_event_44 oI_m1 ?_
    exact A_iret rfl dX12_event_45
  · refine A_aload_n dX12_event_13 rfl ?_
    refine A_getr lf_X12_144 rfl rfl dX12_event_14 ?_
    refine A_iload_n dX12_event_17 rfl ?_
    refine A_iald rfl dX12_event_18 (fun _ => ?_)
    refine A_bipush (v := (20 : Int32)) dX12_event_19 oB_20 ?_
    refine A_icmp_eq (tgt := 44) dX12_event_21 (by decide) (fun _ => ?_) (fun _ => ?_)
    · refine A_iconst (v := (-1 : Int32)) dX12_event_44 oI_m1 ?_
      exact A_iret rfl dX12_event_45
    · refine A_iload_n dX12_event_24 rfl ?_
      refine A_iconst (v := (0 : Int32)) dX12_event_25 oI_0 ?_
      refine A_sipush (v := (9999 : Int32)) dX12_event_26 oS_9999 ?_
      refine A_callSp (a_X12_isIn (l := l) _ _ _ _ ) lc_X12_196 rfl (by decide) (Nat.le_of_ble_eq_true rfl) rfl dX12_event_29 ?_
      refine A_if_eq (tgt := 44) dX12_event_32 (by decide) (fun _ => ?_) (fun _ => ?_)
      · refine A_iconst (v := (-1 : Int32)) dX12_event_44 oI_m1 ?_
        exact A_iret rfl dX12_event_45
      · refine A_iload_n dX12_event_35 rfl ?_
        refine A_iconst (v := (0 : Int32)) dX12_event_36 oI_0 ?_
        refine A_iconst (v := (3 : Int32)) dX12_event_37 oI_3 ?_
        refine A_callSp (a_X12_isIn (l := l) _ _ _ _ ) lc_X12_196 rfl (by decide) (Nat.le_of_ble_eq_true rfl) rfl dX12_event_38 ?_
        refine A_if_ne (tgt := 46) dX12_event_41 (by decide) (fun _ => ?_) (fun _ => ?_)
        · refine A_iconst (v := (-1 : Int32)) dX12_event_44 oI_m1 ?_
          exact A_iret rfl dX12_event_45
        · refine A_iload_n dX12_event_46 rfl ?_
          refine A_iconst (v := (2 : Int32)) dX12_event_47 oI_2 ?_
          refine A_icmp_eq (tgt := 75) dX12_event_48 (by decide) (fun _ => ?_) (fun _ => ?_)
          · exact (a_X12_event_b75 (l := l) x1 x2 x3 x4   _ ).sub ⟨rfl, rfl, rfl, rfl, rfl, trivial⟩
          · refine A_iload dX12_event_51 rfl ?_
            refine A_iconst (v := (0 : Int32)) dX12_event_53 oI_0 ?_
            refine A_iload_n dX12_event_54 rfl ?_
            refine A_iconst (v := (3 : Int32)) dX12_event_55 oI_3 ?_
            refine A_icmp_ne (tgt := 64) dX12_event_56 (by decide) (fun _ => ?_) (fun _ => ?_)
            · refine A_bipush (v := (9 : Int32)) dX12_event_59 oB_9 ?_
              refine A_goto (tgt := 67) dX12_event_61 (by decide) ?_
              exact (a_X12_event_b67 (l := l) x1 x2 x3 x4  _ _ _ _ ).sub ⟨rfl, rfl, rfl, rfl, rfl, trivial⟩
            · refine A_sipush (v := (9999 : Int32)) dX12_event_64 oS_9999 ?_
              exact (a_X12_event_b67 (l := l) x1 x2 x3 x4  _ _ _ _ ).sub ⟨rfl, rfl, rfl, rfl, rfl, trivial⟩
theorem a_X12_event {l : Launch}  (x1 : Int32) (x2 : Int32) (x3 : Int32) (x4 : Int32) (M : xM)  : AM SM l yX12_event cX12_event 6 (some .int) 1 ki [xr 0, xi x1, xi x2, xi x3, xi x4] M (F_X12_event  x1 x2 x3 x4  M) :=
  AM.of (L0 := [some (xr 0), some (xi x1), some (xi x2), some (xi x3), some (xi x4), none]) (w_X12_event (l := l) x1 x2 x3 x4  M ) (by decide +kernel) rfl (Nat.le_of_ble_eq_true rfl) ⟨rfl, rfl, rfl, rfl, rfl, trivial⟩
