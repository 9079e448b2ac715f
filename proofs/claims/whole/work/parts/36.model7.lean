theorem lf_X12_156 : xfl RX12 156 11 67 (tyX12 67) true := ⟨_, _, _, _, xc_X12, by decide, rfl, rfl, rfl, lw_gm 1480 (by decide +kernel) rfl⟩
theorem lf_X12_159 : xfl RX12 159 11 68 (tyX12 68) true := ⟨_, _, _, _, xc_X12, by decide, rfl, rfl, rfl, lw_gm 1481 (by decide +kernel) rfl⟩
theorem lf_X12_162 : xfl RX12 162 11 70 (tyX12 70) true := ⟨_, _, _, _, xc_X12, by decide, rfl, rfl, rfl, lw_gm 1483 (by decide +kernel) rfl⟩
theorem lf_X12_165 : xfl RX12 165 11 71 (tyX12 71) true := ⟨_, _, _, _, xc_X12, by decide, rfl, rfl, rfl, lw_gm 1484 (by decide +kernel) rfl⟩
theorem lf_X12_495 : xfl RX12 495 11 69 (tyX12 69) false := ⟨_, _, _, _, xc_X12, by decide, rfl, rfl, rfl, lw_gm 1482 (by decide +kernel) rfl⟩
theorem lc_X12_498 : xlV RX12 498 yX12_goSeals cX12_goSeals 9 none 1 11 := ⟨⟨lw_gm 2134 (by decide +kernel) rfl, lw_gm 117 (by decide +kernel) rfl, lw_gm 2137 (by decide +kernel) rfl, ⟨by decide, by decide, by decide +kernel⟩, by decide⟩, lw_gm 2136 (by decide +kernel) rfl, lw_gm 98 (by decide +kernel) rfl, _, _, rfl⟩
theorem lc_X12_501 : xlS RX12 501 yX12_isSpan cX12_isSpan 2 (some .boolean) 2 := ⟨⟨lw_gm 2142 (by decide +kernel) rfl, lw_gm 117 (by decide +kernel) rfl, lw_gm 2144 (by decide +kernel) rfl, ⟨by decide, by decide, by decide +kernel⟩, by decide⟩, lw_gm 2143 (by decide +kernel) rfl⟩
theorem lc_X12_504 : xlV RX12 504 yX12_openWithin cX12_openWithin 9 (some .int) 4 11 := ⟨⟨lw_gm 2145 (by decide +kernel) rfl, lw_gm 117 (by decide +kernel) rfl, lw_gm 2148 (by decide +kernel) rfl, ⟨by decide, by decide, by decide +kernel⟩, by decide⟩, lw_gm 2147 (by decide +kernel) rfl, lw_gm 99 (by decide +kernel) rfl, _, _, rfl⟩
theorem lc_X12_507 : xlV RX12 507 yX12_isCounter cX12_isCounter 3 (some .boolean) 2 11 := ⟨⟨lw_gm 2161 (by decide +kernel) rfl, lw_gm 117 (by decide +kernel) rfl, lw_gm 2164 (by decide +kernel) rfl, ⟨by decide, by decide, by decide +kernel⟩, by decide⟩, lw_gm 2163 (by decide +kernel) rfl, lw_gm 100 (by decide +kernel) rfl, _, _, rfl⟩
theorem lc_X12_510 : xlV RX12 510 yX12_latest cX12_latest 2 (some .int) 1 11 := ⟨⟨lw_gm 2181 (by decide +kernel) rfl, lw_gm 117 (by decide +kernel) rfl, lw_gm 2184 (by decide +kernel) rfl, ⟨by decide, by decide, by decide +kernel⟩, by decide⟩, lw_gm 2183 (by decide +kernel) rfl, lw_gm 102 (by decide +kernel) rfl, _, _, rfl⟩
theorem lc_X12_513 : xlV RX12 513 yX12_differing cX12_differing 4 (some .int) 1 11 := ⟨⟨lw_gm 2177 (by decide +kernel) rfl, lw_gm 117 (by decide +kernel) rfl, lw_gm 2180 (by decide +kernel) rfl, ⟨by decide, by decide, by decide +kernel⟩, by decide⟩, lw_gm 2179 (by decide +kernel) rfl, lw_gm 101 (by decide +kernel) rfl, _, _, rfl⟩
def F_X12_goSeals_b219 (fu : Nat)  (x1 : Int32) (k15 : Int32 → Int32 → Int32 → Int32 → xM → Option (xM)) (x2 : Int32) (x3 : Int32) (x4 : Int32) (x5 : Int32) (M : xM) : Option (xM) :=
  k15 x2 x3 x4 (x5 + (1 : Int32)) M
set_option maxRecDepth 100000 in
set_option maxHeartbeats 4000000 in
theorem a_X12_goSeals_b219 {l : Launch} (fu : Nat) (x1 : Int32)  {k15 : Int32 → Int32 → Int32 → Int32 → xM → Option (xM)} (hk15 : ∀ (b0 : Int32) (b1 : Int32) (b2 : Int32) (b3 : Int32) (M : xM), AW SM l RX12 cX12_goSeals 9 none 0 kv (k15 b0 b1 b2 b3 M) 15 [some (xr 0), some (xi x1), some (xi b0), some (xi b1), some (xi b2), some (xi b3), none, none, none] [] M) (x2 : Int32) (x3 : Int32) (x4 : Int32) (x5 : Int32) (M : xM)  : AW SM l RX12 cX12_goSeals 9 none 0 kv (F_X12_goSeals_b219 fu x1 k15 x2 x3 x4 x5 M) 219 [some (xr 0), some (xi x1), some (xi x2), some (xi x3), some (xi x4), some (xi x5), none, none, none] [] M := by
  unfold F_X12_goSeals_b219
  refine A_iinc dX12_goSeals_219 rfl oI_1 (Nat.le_of_ble_eq_true rfl) rfl ?_
  refine A_goto (tgt := 15) dX12_goSeals_222 (by decide) ?_
  exact (hk15 _ _ _ _ _).sub ⟨rfl, rfl, rfl, rfl, rfl, rfl, trivial⟩
def F_X12_goSeals_b199 (fu : Nat)  (x1 : Int32) (k15 : Int32 → Int32 → Int32 → Int32 → xM → Option (xM)) (x2 : Int32) (x3 : Int32) (x4 : Int32) (x5 : Int32) (x6 : Int32) (M : xM) : Option (xM) :=
  (if x6 < 0 ∨ 120 ≤ x6.toNatClampNeg then none else
  (if (M 40 x6.toNatClampNeg) = (3 : Int32) then
  (if x6 < 0 ∨ 120 ≤ x6.toNatClampNeg then none else
  F_X12_goSeals_b219 fu x1 k15 x2 x3 (M 41 x6.toNatClampNeg) x5 M)
  else
  F_X12_goSeals_b219 fu x1 k15 x2 x3 x4 x5 M))
set_option maxRecDepth 100000 in
set_option maxHeartbeats 4000000 in
theorem a_X12_goSeals_b199 {l : Launch} (fu : Nat) (x1 : Int32)  {k15 : Int32 → Int32 → Int32 → Int32 → xM → Option (xM)} (hk15 : ∀ (b0 : Int32) (b1 : Int32) (b2 : Int32) (b3 : Int32) (M : xM), AW SM l RX12 cX12_goSeals 9 none 0 kv (k15 b0 b1 b2 b3 M) 15 [some (xr 0), some (xi x1), some (xi b0), some (xi b1), some (xi b2), some (xi b3), none, none, none] [] M) (x2 : Int32) (x3 : Int32) (x4 : Int32) (x5 : Int32) (x6 : Int32) (M : xM)  : AW SM l RX12 cX12_goSeals 9 none 0 kv (F_X12_goSeals_b199 fu x1 k15 x2 x3 x4 x5 x6 M) 199 [some (xr 0), some (xi x1), some (xi x2), some (xi x3), some (xi x4), some (xi x5), some (xi x6), none, none] [] M := by
  unfold F_X12_goSeals_b199
  refine A_aload_n dX12_goSeals_199 rfl ?_
  refine A_getr lf_X12_150 rfl rfl dX12_goSeals_200 ?_
  refine A_iload dX12_goSeals_203 rfl ?_
  refine A_iald rfl dX12_goSeals_205 (fun _ => ?_)
  refine A_iconst (v := (3 : Int32)) dX12_goSeals_206 oI_3 ?_
  refine A_icmp_ne (tgt := 219) dX12_goSeals_207 (by decide) (fun _ => ?_) (fun _ => ?_)
  · refine A_aload_n dX12_goSeals_210 rfl ?_
    refine A_getr lf_X12_153 rfl rfl dX12_goSeals_211 ?_
    refine A_iload dX12_goSeals_214 rfl ?_
    refine A_iald rfl dX12_goSeals_216 (fun _ => ?_)
    refine A_istore dX12_goSeals_217 (Nat.le_of_ble_eq_true rfl) rfl ?_
    exact (a_X12_goSeals_b219 (l := l) fu x1 hk15 _ _ _ _ _ ).sub ⟨rfl, rfl, rfl, rfl, rfl, rfl, trivial⟩
  · exact (a_X12_goSeals_b219 (l := l) fu x1 hk15 _ _ _ _ _ ).sub ⟨rfl, rfl, rfl, rfl, rfl, rfl, trivial⟩
def F_X12_goSeals_b197 (fu : Nat)  (x1 : Int32) (k15 : Int32 → Int32 → Int32 → Int32 → xM → Option (xM)) (x3 : Int32) (x4 : Int32) (x5 : Int32) (x6 : Int32) (M : xM) : Option (xM) :=
  F_X12_goSeals_b199 fu x1 k15 (1 : Int32) x3 x4 x5 x6 M
set_option maxRecDepth 100000 in
set_option maxHeartbeats 4000000 in
theorem a_X12_goSeals_b197 {l : Launch} (fu : Nat) (x1 : Int32)  {k15 : Int32 → Int32 → Int32 → Int32 → xM → Option (xM)} (hk15 : ∀ (b0 : Int32) (b1 : Int32) (b2 : Int32) (b3 : Int32) (M : xM), AW SM l RX12 cX12_goSeals 9 none 0 kv (k15 b0 b1 b2 b3 M) 15 [some (xr 0), some (xi x1), some (xi b0), some (xi b1), some (xi b2), some (xi b3), none, none, none] [] M) (x3 : Int32) (x4 : Int32) (x5 : Int32) (x6 : Int32) (M : xM)  : AW SM l RX12 cX12_goSeals 9 none 0 kv (F_X12_goSeals_b197 fu x1 k15 x3 x4 x5 x6 M) 197 [some (xr 0), some (xi x1), none, some (xi x3), some (xi x4), some (xi x5), some (xi x6), none, none] [] M := by
  unfold F_X12_goSeals_b197
  refine A_iconst (v := (1 : Int32)) dX12_goSeals_197 oI_1 ?_
  refine A_istore_n dX12_goSeals_198 (Nat.le_of_ble_eq_true rfl) rfl ?_
  exact (a_X12_goSeals_b199 (l := l) fu x1 hk15 _ _ _ _ _ _ ).sub ⟨rfl, rfl, rfl, rfl, rfl, rfl, rfl, trivial⟩
def F_X12_goSeals_b181 (fu : Nat)  (x1 : Int32) (k15 : Int32 → Int32 → Int32 → Int32 → xM → Option (xM)) (x2 : Int32) (x3 : Int32) (x4 : Int32) (x5 : Int32) (x6 : Int32) (x7 : Int32) (M : xM) : Option (xM) :=
  (if x7 = 0 then
  (if x6 < 0 ∨ 120 ≤ x6.toNatClampNeg then none else
  (if (M 40 x6.toNatClampNeg) = (2 : Int32) then
  F_X12_goSeals_b197 fu x1 k15 x3 x4 x5 x6 M
  else
  F_X12_goSeals_b199 fu x1 k15 x2 x3 x4 x5 x6 M))
  else
  F_X12_goSeals_b197 fu x1 k15 x3 x4 x5 x6 M)
set_option maxRecDepth 100000 in
set_option maxHeartbeats 4000000 in
theorem a_X12_goSeals_b181 {l : Launch} (fu : Nat) (x1 : Int32)  {k15 : Int32 → Int32 → Int32 → Int32 → xM → Option (xM)} (hk15 : ∀ (b0 : Int32) (b1 : Int32) (b2 : Int32) (b3 : Int32) (M : xM), AW SM l RX12 cX12_goSeals 9 none 0 kv (k15 b0 b1 b2 b3 M) 15 [some (xr 0), some (xi x1), some (xi b0), some (xi b1), some (xi b2), some (xi b3), none, none, none] [] M) (x2 : Int32) (x3 : Int32) (x4 : Int32) (x5 : Int32) (x6 : Int32) (x7 : Int32) (M : xM)  : AW SM l RX12 cX12_goSeals 9 none 0 kv (F_X12_goSeals_b181 fu x1 k15 x2 x3 x4 x5 x6 x7 M) 181 [some (xr 0), some (xi x1), some (xi x2), some (xi x3), some (xi x4), some (xi x5), some (xi x6), some (xi x7), none] [] M := by
  unfold F_X12_goSeals_b181
  refine A_iload dX12_goSeals_181 rfl ?_
  refine A_if_ne (tgt := 197) dX12_goSeals_183 (by decide) (fun _ => ?_) (fun _ => ?_)
  · refine A_aload_n dX12_goSeals_186 rfl ?_
    refine A_getr lf_X12_150 rfl rfl dX12_goSeals_187 ?_
    refine A_iload dX12_goSeals_190 rfl ?_
    refine A_iald rfl dX12_goSeals_192 (fun _ => ?_)
    refine A_iconst (v := (2 : Int32)) dX12_goSeals_193 oI_2 ?_
    refine A_icmp_ne (tgt := 199) dX12_goSeals_194 (by decide) (fun _ => ?_) (fun _ => ?_)
    · exact (a_X12_goSeals_b197 (l := l) fu x1 hk15 _ _ _ _ _ ).sub ⟨rfl, rfl, rfl, rfl, rfl, rfl, trivial⟩
    · exact (a_X12_goSeals_b199 (l := l) fu x1 hk15 _ _ _ _ _ _ ).sub ⟨rfl, rfl, rfl, rfl, rfl, rfl, rfl, trivial⟩
  · exact (a_X12_goSeals_b197 (l := l) fu x1 hk15 _ _ _ _ _ ).sub ⟨rfl, rfl, rfl, rfl, rfl, rfl, trivial⟩
def F_X12_goSeals_b157 (fu : Nat)  (x1 : Int32) (k15 : Int32 → Int32 → Int32 → Int32 → xM → Option (xM)) (x2 : Int32) (x3 : Int32) (x4 : Int32) (x5 : Int32) (x6 : Int32) (x7 : Int32) (s0 : Int32) (s1 : Int32) (M : xM) : Option (xM) :=
  (if x6 < 0 ∨ 120 ≤ x6.toNatClampNeg then none else
  (if ((xset M 0 69 (s1 ||| s0)) 40 x6.toNatClampNeg) = 0 then
  (if x6 < 0 ∨ 120 ≤ x6.toNatClampNeg then none else
  F_X12_goSeals_b181 fu x1 k15 (0 : Int32) ((xset M 0 69 (s1 ||| s0)) 41 x6.toNatClampNeg) x4 x5 x6 x7 (xset M 0 69 (s1 ||| s0)))
  else
  F_X12_goSeals_b181 fu x1 k15 x2 x3 x4 x5 x6 x7 (xset M 0 69 (s1 ||| s0))))
set_option maxRecDepth 100000 in
set_option maxHeartbeats 4000000 in
theorem a_X12_goSeals_b157 {l : Launch} (fu : Nat) (x1 : Int32)  {k15 : Int32 → Int32 → Int32 → Int32 → xM → Option (xM)} (hk15 : ∀ (b0 : Int32) (b1 : Int32) (b2 : Int32) (b3 : Int32) (M : xM), AW SM l RX12 cX12_goSeals 9 none 0 kv (k15 b0 b1 b2 b3 M) 15 [some (xr 0), some (xi x1), some (xi b0), some (xi b1), some (xi b2), some (xi b3), none, none, none] [] M) (x2 : Int32) (x3 : Int32) (x4 : Int32) (x5 : Int32) (x6 : Int32) (x7 : Int32) (s0 : Int32) (s1 : Int32) (M : xM)  : AW SM l RX12 cX12_goSeals 9 none 0 kv (F_X12_goSeals_b157 fu x1 k15 x2 x3 x4 x5 x6 x7 s0 s1 M) 157 [some (xr 0), some (xi x1), some (xi x2), some (xi x3), some (xi x4), some (xi x5), some (xi x6), some (xi x7), none] [xi s0, xi s1, xr 0] M := by
  unfold F_X12_goSeals_b157
  refine A_ior dX12_goSeals_157 ?_
  refine A_puti lf_X12_495 rfl rfl dX12_goSeals_158 ?_
  refine A_aload_n dX12_goSeals_161 rfl ?_
  refine A_getr lf_X12_150 rfl rfl dX12_goSeals_162 ?_
  refine A_iload dX12_goSeals_165 rfl ?_
  refine A_iald rfl dX12_goSeals_167 (fun _ => ?_)
  refine A_if_ne (tgt := 181) dX12_goSeals_168 (by decide) (fun _ => ?_) (fun _ => ?_)
  · refine A_iconst (v := (0 : Int32)) dX12_goSeals_171 oI_0 ?_
    refine A_istore_n dX12_goSeals_172 (Nat.le_of_ble_eq_true rfl) rfl ?_
    refine A_aload_n dX12_goSeals_173 rfl ?_
    refine A_getr lf_X12_153 rfl rfl dX12_goSeals_174 ?_
    refine A_iload dX12_goSeals_177 rfl ?_
    refine A_iald rfl dX12_goSeals_179 (fun _ => ?_)
    refine A_istore_n dX12_goSeals_180 (Nat.le_of_ble_eq_true rfl) rfl ?_
    exact (a_X12_goSeals_b181 (l := l) fu x1 hk15 _ _ _ _ _ _ _ ).sub ⟨rfl, rfl, rfl, rfl, rfl, rfl, rfl, rfl, trivial⟩
  · exact (a_X12_goSeals_b181 (l := l) fu x1 hk15 _ _ _ _ _ _ _ ).sub ⟨rfl, rfl, rfl, rfl, rfl, rfl, rfl, rfl, trivial⟩
def F_X12_goSeals_b129 (fu : Nat)  (x1 : Int32) (k15 : Int32 → Int32 → Int32 → Int32 → xM → Option (xM)) (x2 : Int32) (x3 : Int32) (x4 : Int32) (x5 : Int32) (x6 : Int32) (x7 : Int32) (x8 : Int32) (s0 : Int32) (s1 : Int32) (M : xM) : Option (xM) :=
  (if s1 < 0 ∨ 21 ≤ s1.toNatClampNeg then none else
  (if x5 < 0 ∨ 21 ≤ x5.toNatClampNeg then none else
  (if x8 = 0 then
  F_X12_goSeals_b157 fu x1 k15 x2 x3 x4 x5 x6 x7 (0 : Int32) ((xset (xset M 42 s1.toNatClampNeg (vp_nar .boolean s0)) 43 x5.toNatClampNeg x4) 0 69) (xset (xset M 42 s1.toNatClampNeg (vp_nar .boolean s0)) 43 x5.toNatClampNeg x4)
  else
  F_X12_goSeals_b157 fu x1 k15 x2 x3 x4 x5 x6 x7 ((1 : Int32) <<< (x5 &&& 31)) ((xset (xset M 42 s1.toNatClampNeg (vp_nar .boolean s0)) 43 x5.toNatClampNeg x4) 0 69) (xset (xset M 42 s1.toNatClampNeg (vp_nar .boolean s0)) 43 x5.toNatClampNeg x4))))
set_option maxRecDepth 100000 in
set_option maxHeartbeats 4000000 in
theorem a_X12_goSeals_b129 {l : Launch} (fu : Nat) (x1 : Int32)  {k15 : Int32 → Int32 → Int32 → Int32 → xM → Option (xM)} (hk15 : ∀ (b0 : Int32) (b1 : Int32) (b2 : Int32) (b3 : Int32) (M : xM), AW SM l RX12 cX12_goSeals 9 none 0 kv (k15 b0 b1 b2 b3 M) 15 [some (xr 0), some (xi x1), some (xi b0), some (xi b1), some (xi b2), some (xi b3), none, none, none] [] M) (x2 : Int32) (x3 : Int32) (x4 : Int32) (x5 : Int32) (x6 : Int32) (x7 : Int32) (x8 : Int32) (s0 : Int32) (s1 : Int32) (M : xM)  : AW SM l RX12 cX12_goSeals 9 none 0 kv (F_X12_goSeals_b129 fu x1 k15 x2 x3 x4 x5 x6 x7 x8 s0 s1 M) 129 [some (xr 0), some (xi x1), some (xi x2), some (xi x3), some (xi x4), some (xi x5), some (xi x6), some (xi x7), some (xi x8)] [xi s0, xi s1, xr 42] M := by
  unfold F_X12_goSeals_b129
  refine A_zast rfl dX12_goSeals_129 (fun _ => ?_)
  refine A_aload_n dX12_goSeals_130 rfl ?_
  refine A_getr lf_X12_159 rfl rfl dX12_goSeals_131 ?_
  refine A_iload dX12_goSeals_134 rfl ?_
  refine A_iload dX12_goSeals_136 rfl ?_
  refine A_iast rfl dX12_goSeals_138 (fun _ => ?_)
  refine A_aload_n dX12_goSeals_139 rfl ?_
  refine A_dup dX12_goSeals_140 rfl ?_
  refine A_geti lf_X12_495 rfl rfl dX12_goSeals_141 ?_
  refine A_iload dX12_goSeals_144 rfl ?_
  refine A_if_eq (tgt := 156) dX12_goSeals_146 (by decide) (fun _ => ?_) (fun _ => ?_)
  · refine A_iconst (v := (0 : Int32)) dX12_goSeals_156 oI_0 ?_
    exact (a_X12_goSeals_b157 (l := l) fu x1 hk15 _ _ _ _ _ _ _ _ _ ).sub ⟨rfl, rfl, rfl, rfl, rfl, rfl, rfl, rfl, trivial⟩
  · refine A_iconst (v := (1 : Int32)) dX12_goSeals_149 oI_1 ?_
    refine A_iload dX12_goSeals_150 rfl ?_
    refine A_ishl dX12_goSeals_152 ?_
    refine A_goto (tgt := 157) dX12_goSeals_153 (by decide) ?_
    exact (a_X12_goSeals_b157 (l := l) fu x1 hk15 _ _ _ _ _ _ _ _ _ ).sub ⟨rfl, rfl, rfl, rfl, rfl, rfl, rfl, rfl, trivial⟩
def F_X12_goSeals_b124 (fu : Nat)  (x1 : Int32) (k15 : Int32 → Int32 → Int32 → Int32 → xM → Option (xM)) (x2 : Int32) (x3 : Int32) (x4 : Int32) (x5 : Int32) (x6 : Int32) (x7 : Int32) (x8 : Int32) (s0 : Int32) (M : xM) : Option (xM) :=
  F_X12_goSeals_b129 fu x1 k15 x2 x3 x4 x5 x6 x7 x8 (1 : Int32) s0 M
set_option maxRecDepth 100000 in
set_option maxHeartbeats 4000000 in
theorem a_X12_goSeals_b124 {l : Launch} (fu : Nat) (x1 : Int32)  {k15 : Int32 → Int32 → Int32 → Int32 → xM → Option (xM)} (hk15 : ∀ (b0 : Int32) (b1 : Int32) (b2 : Int32) (b3 : Int32) (M : xM), AW SM l RX12 cX12_goSeals 9 none 0 kv (k15 b0 b1 b2 b3 M) 15 [some (xr 0), some (xi x1), some (xi b0), some (xi b1), some (xi b2), some (xi b3), none, none, none] [] M) (x2 : Int32) (x3 : Int32) (x4 : Int32) (x5 : Int32) (x6 : Int32) (x7 : Int32) (x8 : Int32) (s0 : Int32) (M : xM)  : AW SM l RX12 cX12_goSeals 9 none 0 kv (F_X12_goSeals_b124 fu x1 k15 x2 x3 x4 x5 x6 x7 x8 s0 M) 124 [some (xr 0), some (xi x1), some (xi x2), some (xi x3), some (xi x4), some (xi x5), some (xi x6), some (xi x7), some (xi x8)] [xi s0, xr 42] M := by
  unfold F_X12_goSeals_b124
  refine A_iconst (v := (1 : Int32)) dX12_goSeals_124 oI_1 ?_
  refine A_goto (tgt := 129) dX12_goSeals_125 (by decide) ?_
  exact (a_X12_goSeals_b129 (l := l) fu x1 hk15 _ _ _ _ _ _ _ _ _ _ ).sub ⟨rfl, rfl, rfl, rfl, rfl, rfl, rfl, rfl, rfl, trivial⟩
def F_X12_goSeals_b107 (fu : Nat)  (x1 : Int32) (k15 : Int32 → Int32 → Int32 → Int32 → xM → Option (xM)) (x2 : Int32) (x3 : Int32) (x4 : Int32) (x5 : Int32) (x6 : Int32) (x7 : Int32) (s0 : Int32) (M : xM) : Option (xM) :=
  (if x2 = 0 then
  (if x7 = 0 then
  F_X12_goSeals_b129 fu x1 k15 x2 x3 x4 x5 x6 x7 s0 (0 : Int32) x5 M
  else
  F_X12_goSeals_b124 fu x1 k15 x2 x3 x4 x5 x6 x7 s0 x5 M)
  else
  F_X12_goSeals_b124 fu x1 k15 x2 x3 x4 x5 x6 x7 s0 x5 M)
set_option maxRecDepth 100000 in
set_option maxHeartbeats 4000000 in
theorem a_X12_goSeals_b107 {l : Launch} (fu : Nat) (x1 : Int32)  {k15 : Int32 → Int32 → Int32 → Int32 → xM → Option (xM)} (hk15 : ∀ (b0 : Int32) (b1 : Int32) (b2 : Int32) (b3 : Int32) (M : xM), AW SM l RX12 cX12_goSeals 9 none 0 kv (k15 b0 b1 b2 b3 M) 15 [some (xr 0), some (xi x1), some (xi b0), some (xi b1), some (xi b2), some (xi b3), none, none, none] [] M) (x2 : Int32) (x3 : Int32) (x4 : Int32) (x5 : Int32) (x6 : Int32) (x7 : Int32) (s0 : Int32) (M : xM)  : AW SM l RX12 cX12_goSeals 9 none 0 kv (F_X12_goSeals_b107 fu x1 k15 x2 x3 x4 x5 x6 x7 s0 M) 107 [some (xr 0), some (xi x1), some (xi x2), some (xi x3), some (xi x4), some (xi x5), some (xi x6), some (xi x7), none] [xi s0] M := by
  unfold F_X12_goSeals_b107
  refine A_istore dX12_goSeals_107 (Nat.le_of_ble_eq_true rfl) rfl ?_
  refine A_aload_n dX12_goSeals_109 rfl ?_
  refine A_getr lf_X12_156 rfl rfl dX12_goSeals_110 ?_
  refine A_iload dX12_goSeals_113 rfl ?_
  refine A_iload_n dX12_goSeals_115 rfl ?_
  refine A_if_ne (tgt := 124) dX12_goSeals_116 (by decide) (fun _ => ?_) (fun _ => ?_)
  · refine A_iload dX12_goSeals_119 rfl ?_
    refine A_if_eq (tgt := 128) dX12_goSeals_121 (by decide) (fun _ => ?_) (fun _ => ?_)
    · refine A_iconst (v := (0 : Int32)) dX12_goSeals_128 oI_0 ?_
      exact (a_X12_goSeals_b129 (l := l) fu x1 hk15 _ _ _ _ _ _ _ _ _ _ ).sub ⟨rfl, rfl, rfl, rfl, rfl, rfl, rfl, rfl, rfl, trivial⟩
    · exact (a_X12_goSeals_b124 (l := l) fu x1 hk15 _ _ _ _ _ _ _ _ _ ).sub ⟨rfl, rfl, rfl, rfl, rfl, rfl, rfl, rfl, rfl, trivial⟩
  · exact (a_X12_goSeals_b124 (l := l) fu x1 hk15 _ _ _ _ _ _ _ _ _ ).sub ⟨rfl, rfl, rfl, rfl, rfl, rfl, rfl, rfl, rfl, trivial⟩
def F_X12_goSeals_b102 (fu : Nat)  (x1 : Int32) (k15 : Int32 → Int32 → Int32 → Int32 → xM → Option (xM)) (x2 : Int32) (x3 : Int32) (x4 : Int32) (x5 : Int32) (x6 : Int32) (x7 : Int32) (M : xM) : Option (xM) :=
  F_X12_goSeals_b107 fu x1 k15 x2 x3 x4 x5 x6 x7 (1 : Int32) M
set_option maxRecDepth 100000 in
set_option maxHeartbeats 4000000 in
theorem a_X12_goSeals_b102 {l : Launch} (fu : Nat) (x1 : Int32)  {k15 : Int32 → Int32 → Int32 → Int32 → xM → Option (xM)} (hk15 : ∀ (b0 : Int32) (b1 : Int32) (b2 : Int32) (b3 : Int32) (M : xM), AW SM l RX12 cX12_goSeals 9 none 0 kv (k15 b0 b1 b2 b3 M) 15 [some (xr 0), some (xi x1), some (xi b0), some (xi b1), some (xi b2), some (xi b3), none, none, none] [] M) (x2 : Int32) (x3 : Int32) (x4 : Int32) (x5 : Int32) (x6 : Int32) (x7 : Int32) (M : xM)  : AW SM l RX12 cX12_goSeals 9 none 0 kv (F_X12_goSeals_b102 fu x1 k15 x2 x3 x4 x5 x6 x7 M) 102 [some (xr 0), some (xi x1), some (xi x2), some (xi x3), some (xi x4), some (xi x5), some (xi x6), some (xi x7), none] [] M := by
  unfold F_X12_goSeals_b102
  refine A_iconst (v := (1 : Int32)) dX12_goSeals_102 oI_1 ?_
  refine A_goto (tgt := 107) dX12_goSeals_103 (by decide) ?_
  exact (a_X12_goSeals_b107 (l := l) fu x1 hk15 _ _ _ _ _ _ _ _ ).sub ⟨rfl, rfl, rfl, rfl, rfl, rfl, rfl, rfl, trivial⟩
def F_X12_goSeals_b106 (fu : Nat)  (x1 : Int32) (k15 : Int32 → Int32 → Int32 → Int32 → xM → Option (xM)) (x2 : Int32) (x3 : Int32) (x4 : Int32) (x5 : Int32) (x6 : Int32) (x7 : Int32) (M : xM) : Option (xM) :=
  F_X12_goSeals_b107 fu x1 k15 x2 x3 x4 x5 x6 x7 (0 : Int32) M
set_option maxRecDepth 100000 in
set_option maxHeartbeats 4000000 in
theorem a_X12_goSeals_b106 {l : Launch} (fu : Nat) (x1 : Int32)  {k15 : Int32 → Int32 → Int32 → Int32 → xM → Option (xM)} (hk15 : ∀ (b0 : Int32) (b1 : Int32) (b2 : Int32) (b3 : Int32) (M : xM), AW SM l RX12 cX12_goSeals 9 none 0 kv (k15 b0 b1 b2 b3 M) 15 [some (xr 0), some (xi x1), some (xi b0), some (xi b1), some (xi b2), some (xi b3), none, none, none] [] M) (x2 : Int32) (x3 : Int32) (x4 : Int32) (x5 : Int32) (x6 : Int32) (x7 : Int32) (M : xM)  : AW SM l RX12 cX12_goSeals 9 none 0 kv (F_X12_goSeals_b106 fu x1 k15 x2 x3 x4 x5 x6 x7 M) 106 [some (xr 0), some (xi x1), some (xi x2), some (xi x3), some (xi x4), some (xi x5), some (xi x6), some (xi x7), none] [] M := by
  unfold F_X12_goSeals_b106
  refine A_iconst (v := (0 : Int32)) dX12_goSeals_106 oI_0 ?_
  exact (a_X12_goSeals_b107 (l := l) fu x1 hk15 _ _ _ _ _ _ _ _ ).sub ⟨rfl, rfl, rfl, rfl, rfl, rfl, rfl, rfl, trivial⟩
def F_X12_goSeals_b88 (fu : Nat)  (x1 : Int32) (k15 : Int32 → Int32 → Int32 → Int32 → xM → Option (xM)) (x2 : Int32) (x3 : Int32) (x4 : Int32) (x5 : Int32) (x6 : Int32) (x7 : Int32) (M : xM) : Option (xM) :=
  (if x6 < 0 ∨ 120 ≤ x6.toNatClampNeg then none else
  (if (M 40 x6.toNatClampNeg) = 0 then
  (if x2 = 0 then
  F_X12_goSeals_b102 fu x1 k15 x2 x3 x4 x5 x6 x7 M
  else
  F_X12_goSeals_b106 fu x1 k15 x2 x3 x4 x5 x6 x7 M)
  else
  F_X12_goSeals_b106 fu x1 k15 x2 x3 x4 x5 x6 x7 M))
set_option maxRecDepth 100000 in
set_option maxHeartbeats 4000000 in
theorem a_X12_goSeals_b88 {l : Launch} (fu : Nat) (x1 : Int32)  {k15 : Int32 → Int32 → Int32 → Int32 → xM → Option (xM)} (hk15 : ∀ (b0 : Int32) (b1 : Int32) (b2 : Int32) (b3 : Int32) (M : xM), AW SM l RX12 cX12_goSeals 9 none 0 kv (k15 b0 b1 b2 b3 M) 15 [some (xr 0), some (xi x1), some (xi b0), some (xi b1), some (xi b2), some (xi b3), none, none, none] [] M) (x2 : Int32) (x3 : Int32) (x4 : Int32) (x5 : Int32) (x6 : Int32) (x7 : Int32) (M : xM)  : AW SM l RX12 cX12_goSeals 9 none 0 kv (F_X12_goSeals_b88 fu x1 k15 x2 x3 x4 x5 x6 x7 M) 88 [some (xr 0), some (xi x1), some (xi x2), some (xi x3), some (xi x4), some (xi x5), some (xi x6), some (xi x7), none] [] M := by
  unfold F_X12_goSeals_b88
  refine A_aload_n dX12_goSeals_88 rfl ?_
  refine A_getr lf_X12_150 rfl rfl dX12_goSeals_89 ?_
  refine A_iload dX12_goSeals_92 rfl ?_
  refine A_iald rfl dX12_goSeals_94 (fun _ => ?_)
  refine A_if_ne (tgt := 106) dX12_goSeals_95 (by decide) (fun _ => ?_) (fun _ => ?_)
  · refine A_iload_n dX12_goSeals_98 rfl ?_
    refine A_if_ne (tgt := 106) dX12_goSeals_99 (by decide) (fun _ => ?_) (fun _ => ?_)
    · exact (a_X12_goSeals_b102 (l := l) fu x1 hk15 _ _ _ _ _ _ _ ).sub ⟨rfl, rfl, rfl, rfl, rfl, rfl, rfl, rfl, trivial⟩
    · exact (a_X12_goSeals_b106 (l := l) fu x1 hk15 _ _ _ _ _ _ _ ).sub ⟨rfl, rfl, rfl, rfl, rfl, rfl, rfl, rfl, trivial⟩
  · exact (a_X12_goSeals_b106 (l := l) fu x1 hk15 _ _ _ _ _ _ _ ).sub ⟨rfl, rfl, rfl, rfl, rfl, rfl, rfl, rfl, trivial⟩
def F_X12_goSeals_b66 (fu : Nat)  (x1 : Int32) (k15 : Int32 → Int32 → Int32 → Int32 → xM → Option (xM)) (x2 : Int32) (x3 : Int32) (x4 : Int32) (x5 : Int32) (x6 : Int32) (s0 : Int32) (M : xM) : Option (xM) :=
  (if x6 < 0 ∨ 120 ≤ x6.toNatClampNeg then none else
  (if (M 40 x6.toNatClampNeg) = (1 : Int32) then
  (if x2 = 0 then
  (if s0 = 0 then
  F_X12_goSeals_b88 fu x1 k15 x2 x3 x4 x5 x6 s0 M
  else
  F_X12_goSeals_b102 fu x1 k15 x2 x3 x4 x5 x6 s0 M)
  else
  F_X12_goSeals_b102 fu x1 k15 x2 x3 x4 x5 x6 s0 M)
  else
  F_X12_goSeals_b88 fu x1 k15 x2 x3 x4 x5 x6 s0 M))
set_option maxRecDepth 100000 in
set_option maxHeartbeats 4000000 in
theorem a_X12_goSeals_b66 {l : Launch} (fu : Nat) (x1 : Int32)  {k15 : Int32 → Int32 → Int32 → Int32 → xM → Option (xM)} (hk15 : ∀ (b0 : Int32) (b1 : Int32) (b2 : Int32) (b3 : Int32) (M : xM), AW SM l RX12 cX12_goSeals 9 none 0 kv (k15 b0 b1 b2 b3 M) 15 [some (xr 0), some (xi x1), some (xi b0), some (xi b1), some (xi b2), some (xi b3), none, none, none] [] M) (x2 : Int32) (x3 : Int32) (x4 : Int32) (x5 : Int32) (x6 : Int32) (s0 : Int32) (M : xM)  : AW SM l RX12 cX12_goSeals 9 none 0 kv (F_X12_goSeals_b66 fu x1 k15 x2 x3 x4 x5 x6 s0 M) 66 [some (xr 0), some (xi x1), some (xi x2), some (xi x3), some (xi x4), some (xi x5), some (xi x6), none, none] [xi s0] M := by
  unfold F_X12_goSeals_b66
  refine A_istore dX12_goSeals_66 (Nat.le_of_ble_eq_true rfl) rfl ?_
  refine A_aload_n dX12_goSeals_68 rfl ?_
  refine A_getr lf_X12_150 rfl rfl dX12_goSeals_69 ?_
  refine A_iload dX12_goSeals_72 rfl ?_
  refine A_iald rfl dX12_goSeals_74 (fun _ => ?_)
  refine A_iconst (v := (1 : Int32)) dX12_goSeals_75 oI_1 ?_
  refine A_icmp_ne (tgt := 88) dX12_goSeals_76 (by decide) (fun _ => ?_) (fun _ => ?_)
  · refine A_iload_n dX12_goSeals_79 rfl ?_
    refine A_if_ne (tgt := 102) dX12_goSeals_80 (by decide) (fun _ => ?_) (fun _ => ?_)
    · refine A_iload dX12_goSeals_83 rfl ?_
      refine A_if_ne (tgt := 102) dX12_goSeals_85 (by decide) (fun _ => ?_) (fun _ => ?_)
      · exact (a_X12_goSeals_b88 (l := l) fu x1 hk15 _ _ _ _ _ _ _ ).sub ⟨rfl, rfl, rfl, rfl, rfl, rfl, rfl, rfl, trivial⟩
      · exact (a_X12_goSeals_b102 (l := l) fu x1 hk15 _ _ _ _ _ _ _ ).sub ⟨rfl, rfl, rfl, rfl, rfl, rfl, rfl, rfl, trivial⟩
    · exact (a_X12_goSeals_b102 (l := l) fu x1 hk15 _ _ _ _ _ _ _ ).sub ⟨rfl, rfl, rfl, rfl, rfl, rfl, rfl, rfl, trivial⟩
  · exact (a_X12_goSeals_b88 (l := l) fu x1 hk15 _ _ _ _ _ _ _ ).sub ⟨rfl, rfl, rfl, rfl, rfl, rfl, rfl, rfl, trivial⟩
def F_X12_goSeals_b65 (fu : Nat)  (x1 : Int32) (k15 : Int32 → Int32 → Int32 → Int32 → xM → Option (xM)) (x2 : Int32) (x3 : Int32) (x4 : Int32) (x5 : Int32) (x6 : Int32) (M : xM) : Option (xM) :=
  F_X12_goSeals_b66 fu x1 k15 x2 x3 x4 x5 x6 (0 : Int32) M
set_option maxRecDepth 100000 in
set_option maxHeartbeats 4000000 in
theorem a_X12_goSeals_b65 {l : Launch} (fu : Nat) (x1 : Int32)  {k15 : Int32 → Int32 → Int32 → Int32 → xM → Option (xM)} (hk15 : ∀ (b0 : Int32) (b1 : Int32) (b2 : Int32) (b3 : Int32) (M : xM), AW SM l RX12 cX12_goSeals 9 none 0 kv (k15 b0 b1 b2 b3 M) 15 [some (xr 0), some (xi x1), some (xi b0), some (xi b1), some (xi b2), some (xi b3), none, none, none] [] M) (x2 : Int32) (x3 : Int32) (x4 : Int32) (x5 : Int32) (x6 : Int32) (M : xM)  : AW SM l RX12 cX12_goSeals 9 none 0 kv (F_X12_goSeals_b65 fu x1 k15 x2 x3 x4 x5 x6 M) 65 [some (xr 0), some (xi x1), some (xi x2), some (xi x3), some (xi x4), some (xi x5), some (xi x6), none, none] [] M := by
  unfold F_X12_goSeals_b65
  refine A_iconst (v := (0 : Int32)) dX12_goSeals_65 oI_0 ?_
  exact (a_X12_goSeals_b66 (l := l) fu x1 hk15 _ _ _ _ _ _ _ ).sub ⟨rfl, rfl, rfl, rfl, rfl, rfl, rfl, trivial⟩
def F_X12_goSeals_b15 (fu : Nat)  (x1 : Int32)  : Nat → Int32 → Int32 → Int32 → Int32 → xM → Option (xM)
  | 0, _, _, _, _, _ => none
  | n + 1, x2, x3, x4, x5, M =>
    (if x1 < 0 ∨ 6 ≤ x1.toNatClampNeg then none else
    (if (M 38 x1.toNatClampNeg) ≤ x5 then
    (if x1 < 0 ∨ 6 ≤ x1.toNatClampNeg then none else
    (if (M 38 x1.toNatClampNeg) < 0 ∨ 21 ≤ (M 38 x1.toNatClampNeg).toNatClampNeg then none else
    (if x1 < 0 ∨ 6 ≤ x1.toNatClampNeg then none else
    (if ((xset M 42 (M 38 x1.toNatClampNeg).toNatClampNeg (vp_nar .boolean x2)) 38 x1.toNatClampNeg) < 0 ∨ 21 ≤ ((xset M 42 (M 38 x1.toNatClampNeg).toNatClampNeg (vp_nar .boolean x2)) 38 x1.toNatClampNeg).toNatClampNeg then none else
    some (xset (xset M 42 (M 38 x1.toNatClampNeg).toNatClampNeg (vp_nar .boolean x2)) 43 ((xset M 42 (M 38 x1.toNatClampNeg).toNatClampNeg (vp_nar .boolean x2)) 38 x1.toNatClampNeg).toNatClampNeg x4)))))
    else
    (if (((20 : Int32) * x1) + x5) < 0 ∨ 120 ≤ (((20 : Int32) * x1) + x5).toNatClampNeg then none else
    (if (M 40 (((20 : Int32) * x1) + x5).toNatClampNeg) = (1 : Int32) then
    (if x2 = 0 then
    (if (((20 : Int32) * x1) + x5) < 0 ∨ 120 ≤ (((20 : Int32) * x1) + x5).toNatClampNeg then none else
    (if (M 41 (((20 : Int32) * x1) + x5).toNatClampNeg) = x3 then
    F_X12_goSeals_b65 fu x1 (F_X12_goSeals_b15 fu x1 n) x2 x3 x4 x5 (((20 : Int32) * x1) + x5) M
    else
    F_X12_goSeals_b66 fu x1 (F_X12_goSeals_b15 fu x1 n) x2 x3 x4 x5 (((20 : Int32) * x1) + x5) (1 : Int32) M))
    else
    F_X12_goSeals_b65 fu x1 (F_X12_goSeals_b15 fu x1 n) x2 x3 x4 x5 (((20 : Int32) * x1) + x5) M)
    else
    F_X12_goSeals_b65 fu x1 (F_X12_goSeals_b15 fu x1 n) x2 x3 x4 x5 (((20 : Int32) * x1) + x5) M))))
set_option maxRecDepth 100000 in
set_option maxHeartbeats 4000000 in
theorem a_X12_goSeals_b15 {l : Launch} (fu : Nat) (x1 : Int32)    : ∀ (n : Nat) (x2 : Int32) (x3 : Int32) (x4 : Int32) (x5 : Int32) (M : xM), AW SM l RX12 cX12_goSeals 9 none 0 kv (F_X12_goSeals_b15 fu x1 n x2 x3 x4 x5 M) 15 [some (xr 0), some (xi x1), some (xi x2), some (xi x3), some (xi x4), some (xi x5), none, none, none] [] M := by
  intro n
  induction n with
  | zero =>
    intro x2 x3 x4 x5 M
    exact AW.none
  | succ n ih =>
    intro x2 x3 x4 x5 M
    rw [F_X12_goSeals_b15]
    refine A_iload dX12_goSeals_15 rfl ?_
    refine A_aload_n dX12_goSeals_17 rfl ?_
    refine A_getr lf_X12_144 rfl rfl dX12_goSeals_18 ?_
    refine A_iload_n dX12_goSeals_21 rfl ?_
    refine A_iald rfl dX12_goSeals_22 (fun _ => ?_)
    refine A_icmp_ge (tgt := 225) dX12_goSeals_23 (by decide) (fun _ => ?_) (fun _ => ?_)
    · refine A_aload_n dX12_goSeals_225 rfl ?_
      refine A_getr lf_X12_156 rfl rfl dX12_goSeals_226 ?_
      refine A_aload_n dX12_goSeals_229 rfl ?_
      refine A_getr lf_X12_144 rfl rfl dX12_goSeals_230 ?_
      refine A_iload_n dX12_goSeals_233 rfl ?_
      refine A_iald rfl dX12_goSeals_234 (fun _ => ?_)
      refine A_iload_n dX12_goSeals_235 rfl ?_
      refine A_zast rfl dX12_goSeals_236 (fun _ => ?_)
      refine A_aload_n dX12_goSeals_237 rfl ?_
      refine A_getr lf_X12_159 rfl rfl dX12_goSeals_238 ?_
      refine A_aload_n dX12_goSeals_241 rfl ?_
      refine A_getr lf_X12_144 rfl rfl dX12_goSeals_242 ?_
      refine A_iload_n dX12_goSeals_245 rfl ?_
      refine A_iald rfl dX12_goSeals_246 (fun _ => ?_)
      refine A_iload dX12_goSeals_247 rfl ?_
      refine A_iast rfl dX12_goSeals_249 (fun _ => ?_)
      exact A_vret rfl dX12_goSeals_250
    · refine A_bipush (v := (20 : Int32)) dX12_goSeals_26 oB_20 ?_
      refine A_iload_n dX12_goSeals_28 rfl ?_
      refine A_imul dX12_goSeals_29 ?_
      refine A_iload dX12_goSeals_30 rfl ?_
      refine A_iadd dX12_goSeals_32 ?_
      refine A_istore dX12_goSeals_33 (Nat.le_of_ble_eq_true rfl) rfl ?_
      refine A_aload_n dX12_goSeals_35 rfl ?_
      refine A_getr lf_X12_150 rfl rfl dX12_goSeals_36 ?_
      refine A_iload dX12_goSeals_39 rfl ?_
      refine A_iald rfl dX12_goSeals_41 (fun _ => ?_)
      refine A_iconst (v := (1 : Int32)) dX12_goSeals_42 oI_1 ?_
      refine A_icmp_ne (tgt := 65) dX12_goSeals_43 (by decide) (fun _ => ?_) (fun _ => ?_)
      · refine A_iload_n dX12_goSeals_46 rfl ?_
        refine A_if_ne (tgt := 65) dX12_goSeals_47 (by decide) (fun _ => ?_) (fun _ => ?_)
        · refine A_aload_n dX12_goSeals_50 rfl ?_
          refine A_getr lf_X12_153 rfl rfl dX12_goSeals_51 ?_
          refine A_iload dX12_goSeals_54 rfl ?_
          refine A_iald rfl dX12_goSeals_56 (fun _ => ?_)
          refine A_iload_n dX12_goSeals_57 rfl ?_
          refine A_icmp_eq (tgt := 65) dX12_goSeals_58 (by decide) (fun _ => ?_) (fun _ => ?_)
          · exact (a_X12_goSeals_b65 (l := l) fu x1 ih _ _ _ _ _ _ ).sub ⟨rfl, rfl, rfl, rfl, rfl, rfl, rfl, trivial⟩
          · refine A_iconst (v := (1 : Int32)) dX12_goSeals_61 oI_1 ?_
            refine A_goto (tgt := 66) dX12_goSeals_62 (by decide) ?_
            exact (a_X12_goSeals_b66 (l := l) fu x1 ih _ _ _ _ _ _ _ ).sub ⟨rfl, rfl, rfl, rfl, rfl, rfl, rfl, trivial⟩
        · exact (a_X12_goSeals_b65 (l := l) fu x1 ih _ _ _ _ _ _ ).sub ⟨rfl, rfl, rfl, rfl, rfl, rfl, rfl, trivial⟩
      · exact (a_X12_goSeals_b65 (l := l) fu x1 ih _ _ _ _ _ _ ).sub ⟨rfl, rfl, rfl, rfl, rfl, rfl, rfl, trivial⟩
def F_X12_goSeals (fu : Nat)  (x1 : Int32)   (M : xM) : Option (xM) :=
  F_X12_goSeals_b15 fu x1 fu (1 : Int32) (-1 : Int32) (0 : Int32) (0 : Int32) (xset M 0 69 (0 : Int32))
set_option maxRecDepth 100000 in
set_option maxHeartbeats 4000000 in
theorem w_X12_goSeals {l : Launch} (fu : Nat) (x1 : Int32)     (M : xM)  : AW SM l RX12 cX12_goSeals 9 none 0 kv (F_X12_goSeals fu x1  M) 0 [some (xr 0), some (xi x1), none, none, none, none, none, none, none] [] M := by
  unfold F_X12_goSeals
  refine A_iconst (v := (1 : Int32)) dX12_goSeals_0 oI_1 ?_
  refine A_istore_n dX12_goSeals_1 (Nat.le_of_ble_eq_true rfl) rfl ?_
  refine A_iconst (v := (-1 : Int32)) dX12_goSeals_2 oI_m1 ?_
  refine A_istore_n dX12_goSeals_3 (Nat.le_of_ble_eq_true rfl) rfl ?_
  refine A_iconst (v := (0 : Int32)) dX12_goSeals_4 oI_0 ?_
  refine A_istore dX12_goSeals_5 (Nat.le_of_ble_eq_true rfl) rfl ?_
  refine A_aload_n dX12_goSeals_7 rfl ?_
  refine A_iconst (v := (0 : Int32)) dX12_goSeals_8 oI_0 ?_
  refine A_puti lf_X12_495 rfl rfl dX12_goSeals_9 ?_
  refine A_iconst (v := (0 : Int32)) dX12_goSeals_12 oI_0 ?_
  refine A_istore dX12_goSeals_13 (Nat.le_of_ble_eq_true rfl) rfl ?_
  exact (a_X12_goSeals_b15 (l := l) fu x1  fu _ _ _ _ _).sub ⟨rfl, rfl, rfl, rfl, rfl, rfl, trivial⟩
theorem a_X12_goSeals {l : Launch} (fu : Nat)  (x1 : Int32) (M : xM)  : AM SM l yX12_goSeals cX12_goSeals 9 none 0 kv [xr 0, xi x1] M (F_X12_goSeals fu x1  M) :=
  AM.of (L0 := [some (xr 0), some (xi x1), none, none, none, none, none, none, none]) (w_X12_goSeals (l := l) fu x1  M ) (by decide +kernel) rfl (Nat.le_of_ble_eq_true rfl) ⟨rfl, rfl, trivial⟩
def F_X12_badOnes (fu : Nat)  (x1 : Int32)   (M : xM) : Option (Int32 × xM) :=
  (if (P_X12_isMachine x1 (xset M 0 0 (0 : Int32))) = 0 then
  some ((-1 : Int32), (xset M 0 0 (0 : Int32)))
  else
  (F_X12_goSeals fu x1 (xset M 0 0 (0 : Int32))).bind fun q1 =>
  some ((q1 0 69), q1))
set_option maxRecDepth 100000 in
set_option maxHeartbeats 4000000 in
theorem w_X12_badOnes {l : Launch} (fu : Nat) (x1 : Int32)     (M : xM)  : AW SM l RX12 cX12_badOnes 2 (some .int) 1 ki (F_X12_badOnes fu x1  M) 0 [some (xr 0), some (xi x1)] [] M := by
  unfold F_X12_badOnes
  refine A_aload_n dX12_badOnes_0 rfl ?_
  refine A_iconst (v := (0 : Int32)) dX12_badOnes_1 oI_0 ?_
  refine A_puti lf_X12_180 rfl rfl dX12_badOnes_2 ?_
  refine A_aload_n dX12_badOnes_5 rfl ?_
  refine A_iload_n dX12_badOnes_6 rfl ?_
  refine A_callVp (a_X12_isMachine (l := l) _ _ ) lc_X12_337 rfl rfl (by decide) (Nat.le_of_ble_eq_true rfl) rfl dX12_badOnes_7 ?_
  refine A_if_ne (tgt := 15) dX12_badOnes_10 (by decide) (fun _ => ?_) (fun _ => ?_)
  · refine A_iconst (v := (-1 : Int32)) dX12_badOnes_13 oI_m1 ?_
    exact A_iret rfl dX12_badOnes_14
  · refine A_aload_n dX12_badOnes_15 rfl ?_
    refine A_iload_n dX12_badOnes_16 rfl ?_
    refine A_callVv (a_X12_goSeals (l := l) fu _ _ ) lc_X12_498 rfl rfl (by decide) (Nat.le_of_ble_eq_true rfl) rfl dX12_badOnes_17 (fun q1 hq1 => ?_)
    refine A_aload_n dX12_badOnes_20 rfl ?_
    refine A_geti lf_X12_495 rfl rfl dX12_badOnes_21 ?_
    exact A_iret rfl dX12_badOnes_24
theorem a_X12_badOnes {l : Launch} (fu : Nat)  (x1 : Int32) (M : xM)  : AM SM l yX12_badOnes cX12_badOnes 2 (some .int) 1 ki [xr 0, xi x1] M (F_X12_badOnes fu x1  M) :=
  AM.of (L0 := [some (xr 0), some (xi x1)]) (w_X12_badOnes (l := l) fu x1  M ) (by decide +kernel) rfl (Nat.le_of_ble_eq_true rfl) ⟨rfl, rfl, trivial⟩
def F_X12_openWithin_b122 (fu : Nat)  (x1 : Int32) (x2 : Int32) (x3 : Int32) (x4 : Int32) (k11 : Int32 → Int32 → xM → Option (Int32 × xM)) (x5 : Int32) (x6 : Int32) (M : xM) : Option (Int32 × xM) :=
  k11 x5 (x6 + (1 : Int32)) M
set_option maxRecDepth 100000 in
set_option maxHeartbeats 4000000 in
theorem a_X12_openWithin_b122 {l : Launch} (fu : Nat) (x1 : Int32) (x2 : Int32) (x3 : Int32) (x4 : Int32)  {k11 : Int32 → Int32 → xM → Option (Int32 × xM)} (hk11 : ∀ (b0 : Int32) (b1 : Int32) (M : xM), AW SM l RX12 cX12_openWithin 9 (some .int) 2 ki (k11 b0 b1 M) 11 [some (xr 0), some (xi x1), some (xi x2), some (xi x3), some (xi x4), some (xi b0), some (xi b1), none, none] [] M) (x5 : Int32) (x6 : Int32) (M : xM)  : AW SM l RX12 cX12_openWithin 9 (some .int) 2 ki (F_X12_openWithin_b122 fu x1 x2 x3 x4 k11 x5 x6 M) 122 [some (xr 0), some (xi x1), some (xi x2), some (xi x3), some (xi x4), some (xi x5), some (xi x6), none, none] [] M := by
  unfold F_X12_openWithin_b122
  refine A_iinc dX12_openWithin_122 rfl oI_1 (Nat.le_of_ble_eq_true rfl) rfl ?_
  refine A_goto (tgt := 11) dX12_openWithin_125 (by decide) ?_
  exact (hk11 _ _ _).sub ⟨rfl, rfl, rfl, rfl, rfl, rfl, rfl, trivial⟩
def F_X12_openWithin_b76 (fu : Nat)  (x1 : Int32) (x2 : Int32) (x3 : Int32) (x4 : Int32) (k11 : Int32 → Int32 → xM → Option (Int32 × xM)) (x5 : Int32) (x6 : Int32) (x7 : Int32) (s0 : Int32) (M : xM) : Option (Int32 × xM) :=
  (if x6 < 0 ∨ 21 ≤ x6.toNatClampNeg then none else
  (if (M 42 x6.toNatClampNeg) = 0 then
  F_X12_openWithin_b122 fu x1 x2 x3 x4 k11 x5 x6 M
  else
  (if x6 < 0 ∨ 21 ≤ x6.toNatClampNeg then none else
  (if (M 43 x6.toNatClampNeg) = x4 then
  F_X12_openWithin_b122 fu x1 x2 x3 x4 k11 x5 x6 M
  else
  F_X12_openWithin_b122 fu x1 x2 x3 x4 k11 (x5 + (jmax (0 : Int32) ((jmin x3 s0) - (jmax x2 x7)))) x6 M))))
set_option maxRecDepth 100000 in
set_option maxHeartbeats 4000000 in
theorem a_X12_openWithin_b76 {l : Launch} (fu : Nat) (x1 : Int32) (x2 : Int32) (x3 : Int32) (x4 : Int32)  {k11 : Int32 → Int32 → xM → Option (Int32 × xM)} (hk11 : ∀ (b0 : Int32) (b1 : Int32) (M : xM), AW SM l RX12 cX12_openWithin 9 (some .int) 2 ki (k11 b0 b1 M) 11 [some (xr 0), some (xi x1), some (xi x2), some (xi x3), some (xi x4), some (xi b0), some (xi b1), none, none] [] M) (x5 : Int32) (x6 : Int32) (x7 : Int32) (s0 : Int32) (M : xM)  : AW SM l RX12 cX12_openWithin 9 (some .int) 2 ki (F_X12_openWithin_b76 fu x1 x2 x3 x4 k11 x5 x6 x7 s0 M) 76 [some (xr 0), some (xi x1), some (xi x2), some (xi x3), some (xi x4), some (xi x5), some (xi x6), some (xi x7), none] [xi s0] M := by
  unfold F_X12_openWithin_b76
  refine A_istore dX12_openWithin_76 (Nat.le_of_ble_eq_true rfl) rfl ?_
  refine A_aload_n dX12_openWithin_78 rfl ?_
  refine A_getr lf_X12_156 rfl rfl dX12_openWithin_79 ?_
  refine A_iload dX12_openWithin_82 rfl ?_
  refine A_zald rfl dX12_openWithin_84 (fun _ => ?_)
  refine A_if_eq (tgt := 122) dX12_openWithin_85 (by decide) (fun _ => ?_) (fun _ => ?_)
  · exact (a_X12_openWithin_b122 (l := l) fu x1 x2 x3 x4 hk11 _ _ _ ).sub ⟨rfl, rfl, rfl, rfl, rfl, rfl, rfl, trivial⟩
  · refine A_aload_n dX12_openWithin_88 rfl ?_
    refine A_getr lf_X12_159 rfl rfl dX12_openWithin_89 ?_
    refine A_iload dX12_openWithin_92 rfl ?_
    refine A_iald rfl dX12_openWithin_94 (fun _ => ?_)
    refine A_iload dX12_openWithin_95 rfl ?_
    refine A_icmp_eq (tgt := 122) dX12_openWithin_97 (by decide) (fun _ => ?_) (fun _ => ?_)
    · exact (a_X12_openWithin_b122 (l := l) fu x1 x2 x3 x4 hk11 _ _ _ ).sub ⟨rfl, rfl, rfl, rfl, rfl, rfl, rfl, trivial⟩
    · refine A_iload dX12_openWithin_100 rfl ?_
      refine A_iconst (v := (0 : Int32)) dX12_openWithin_102 oI_0 ?_
      refine A_iload_n dX12_openWithin_103 rfl ?_
      refine A_iload dX12_openWithin_104 rfl ?_
      refine A_jmin lc_X12_168 (by decide) (Nat.le_of_ble_eq_true rfl) dX12_openWithin_106 ?_
      refine A_iload_n dX12_openWithin_109 rfl ?_
      refine A_iload dX12_openWithin_110 rfl ?_
      refine A_jmax lc_X12_174 (by decide) (Nat.le_of_ble_eq_true rfl) dX12_openWithin_112 ?_
      refine A_isub dX12_openWithin_115 ?_
      refine A_jmax lc_X12_174 (by decide) (Nat.le_of_ble_eq_true rfl) dX12_openWithin_116 ?_
      refine A_iadd dX12_openWithin_119 ?_
      refine A_istore dX12_openWithin_120 (Nat.le_of_ble_eq_true rfl) rfl ?_
      exact (a_X12_openWithin_b122 (l := l) fu x1 x2 x3 x4 hk11 _ _ _ ).sub ⟨rfl, rfl, rfl, rfl, rfl, rfl, rfl, trivial⟩
def F_X12_openWithin_b45 (fu : Nat)  (x1 : Int32) (x2 : Int32) (x3 : Int32) (x4 : Int32) (k11 : Int32 → Int32 → xM → Option (Int32 × xM)) (x5 : Int32) (x6 : Int32) (s0 : Int32) (M : xM) : Option (Int32 × xM) :=
  (if x1 < 0 ∨ 6 ≤ x1.toNatClampNeg then none else
  (if x6 = (M 38 x1.toNatClampNeg) then
  F_X12_openWithin_b76 fu x1 x2 x3 x4 k11 x5 x6 s0 (9999 : Int32) M
  else
  (if (((20 : Int32) * x1) + x6) < 0 ∨ 120 ≤ (((20 : Int32) * x1) + x6).toNatClampNeg then none else
  F_X12_openWithin_b76 fu x1 x2 x3 x4 k11 x5 x6 s0 (M 39 (((20 : Int32) * x1) + x6).toNatClampNeg) M)))
set_option maxRecDepth 100000 in
set_option maxHeartbeats 4000000 in
theorem a_X12_openWithin_b45 {l : Launch} (fu : Nat) (x1 : Int32) (x2 : Int32) (x3 : Int32) (x4 : Int32)  {k11 : Int32 → Int32 → xM → Option (Int32 × xM)} (hk11 : ∀ (b0 : Int32) (b1 : Int32) (M : xM), AW SM l RX12 cX12_openWithin 9 (some .int) 2 ki (k11 b0 b1 M) 11 [some (xr 0), some (xi x1), some (xi x2), some (xi x3), some (xi x4), some (xi b0), some (xi b1), none, none] [] M) (x5 : Int32) (x6 : Int32) (s0 : Int32) (M : xM)  : AW SM l RX12 cX12_openWithin 9 (some .int) 2 ki (F_X12_openWithin_b45 fu x1 x2 x3 x4 k11 x5 x6 s0 M) 45 [some (xr 0), some (xi x1), some (xi x2), some (xi x3), some (xi x4), some (xi x5), some (xi x6), none, none] [xi s0] M := by
  unfold F_X12_openWithin_b45
  refine A_istore dX12_openWithin_45 (Nat.le_of_ble_eq_true rfl) rfl ?_
  refine A_iload dX12_openWithin_47 rfl ?_
  refine A_aload_n dX12_openWithin_49 rfl ?_
  refine A_getr lf_X12_144 rfl rfl dX12_openWithin_50 ?_
  refine A_iload_n dX12_openWithin_53 rfl ?_
  refine A_iald rfl dX12_openWithin_54 (fun _ => ?_)
  refine A_icmp_ne (tgt := 64) dX12_openWithin_55 (by decide) (fun _ => ?_) (fun _ => ?_)
  · refine A_sipush (v := (9999 : Int32)) dX12_openWithin_58 oS_9999 ?_
    refine A_goto (tgt := 76) dX12_openWithin_61 (by decide) ?_
    exact (a_X12_openWithin_b76 (l := l) fu x1 x2 x3 x4 hk11 _ _ _ _ _ ).sub ⟨rfl, rfl, rfl, rfl, rfl, rfl, rfl, rfl, trivial⟩
  · refine A_aload_n dX12_openWithin_64 rfl ?_
    refine A_getr lf_X12_147 rfl rfl dX12_openWithin_65 ?_
    refine A_bipush (v := (20 : Int32)) dX12_openWithin_68 oB_20 ?_
    refine A_iload_n dX12_openWithin_70 rfl ?_
    refine A_imul dX12_openWithin_71 ?_
    refine A_iload dX12_openWithin_72 rfl ?_
    refine A_iadd dX12_openWithin_74 ?_
    refine A_iald rfl dX12_openWithin_75 (fun _ => ?_)
    exact (a_X12_openWithin_b76 (l := l) fu x1 x2 x3 x4 hk11 _ _ _ _ _ ).sub ⟨rfl, rfl, rfl, rfl, rfl, rfl, rfl, rfl, trivial⟩
def F_X12_openWithin_b11 (fu : Nat)  (x1 : Int32) (x2 : Int32) (x3 : Int32) (x4 : Int32)  : Nat → Int32 → Int32 → xM → Option (Int32 × xM)
  | 0, _, _, _ => none
  | n + 1, x5, x6, M =>
    (if x1 < 0 ∨ 6 ≤ x1.toNatClampNeg then none else
    (if (M 38 x1.toNatClampNeg) < x6 then
    some (x5, M)
    else
    (if x6 = 0 then
    F_X12_openWithin_b45 fu x1 x2 x3 x4 (F_X12_openWithin_b11 fu x1 x2 x3 x4 n) x5 x6 (0 : Int32) M
    else
    (if ((((20 : Int32) * x1) + x6) - (1 : Int32)) < 0 ∨ 120 ≤ ((((20 : Int32) * x1) + x6) - (1 : Int32)).toNatClampNeg then none else
    F_X12_openWithin_b45 fu x1 x2 x3 x4 (F_X12_openWithin_b11 fu x1 x2 x3 x4 n) x5 x6 (M 39 ((((20 : Int32) * x1) + x6) - (1 : Int32)).toNatClampNeg) M))))
set_option maxRecDepth 100000 in
set_option maxHeartbeats 4000000 in
theorem a_X12_openWithin_b11 {l : Launch} (fu : Nat) (x1 : Int32) (x2 : Int32) (x3 : Int32) (x4 : Int32)    : ∀ (n : Nat) (x5 : Int32) (x6 : Int32) (M : xM), AW SM l RX12 cX12_openWithin 9 (some .int) 2 ki (F_X12_openWithin_b11 fu x1 x2 x3 x4 n x5 x6 M) 11 [some (xr 0), some (xi x1), some (xi x2), some (xi x3), some (xi x4), some (xi x5), some (xi x6), none, none] [] M := by
  intro n
  induction n with
  | zero =>
    intro x5 x6 M
    exact AW.none
  | succ n ih =>
    intro x5 x6 M
    rw [F_X12_openWithin_b11]
    refine A_iload dX12_openWithin_11 rfl ?_
    refine A_aload_n dX12_openWithin_13 rfl ?_
    refine A_getr lf_X12_144 rfl rfl dX12_openWithin_14 ?_
    refine A_iload_n dX12_openWithin_17 rfl ?_
    refine A_iald rfl dX12_openWithin_18 (fun _ => ?_)
    refine A_icmp_gt (tgt := 128) dX12_openWithin_19 (by decide) (fun _ => ?_) (fun _ => ?_)
    · refine A_iload dX12_openWithin_128 rfl ?_
      exact A_iret rfl dX12_openWithin_130
    · refine A_iload dX12_openWithin_22 rfl ?_
      refine A_if_ne (tgt := 31) dX12_openWithin_24 (by decide) (fun _ => ?_) (fun _ => ?_)
      · refine A_iconst (v := (0 : Int32)) dX12_openWithin_27 oI_0 ?_
        refine A_goto (tgt := 45) dX12_openWithin_28 (by decide) ?_
        exact (a_X12_openWithin_b45 (l := l) fu x1 x2 x3 x4 ih _ _ _ _ ).sub ⟨rfl, rfl, rfl, rfl, rfl, rfl, rfl, trivial⟩
      · refine A_aload_n dX12_openWithin_31 rfl ?_
        refine A_getr lf_X12_147 rfl rfl dX12_openWithin_32 ?_
        refine A_bipush (v := (20 : Int32)) dX12_openWithin_35 oB_20 ?_
        refine A_iload_n dX12_openWithin_37 rfl ?_
        refine A_imul dX12_openWithin_38 ?_
        refine A_iload dX12_openWithin_39 rfl ?_
        refine A_iadd dX12_openWithin_41 ?_
        refine A_iconst (v := (1 : Int32)) dX12_openWithin_42 oI_1 ?_
        refine A_isub dX12_openWithin_43 ?_
        refine A_iald rfl dX12_openWithin_44 (fun _ => ?_)
        exact (a_X12_openWithin_b45 (l := l) fu x1 x2 x3 x4 ih _ _ _ _ ).sub ⟨rfl, rfl, rfl, rfl, rfl, rfl, rfl, trivial⟩
def F_X12_openWithin (fu : Nat)  (x1 : Int32) (x2 : Int32) (x3 : Int32) (x4 : Int32)   (M : xM) : Option (Int32 × xM) :=
  (F_X12_goSeals fu x1 M).bind fun q1 =>
  F_X12_openWithin_b11 fu x1 x2 x3 x4 fu (0 : Int32) (0 : Int32) q1
set_option maxRecDepth 100000 in
set_option maxHeartbeats 4000000 in
theorem w_X12_openWithin {l : Launch} (fu : Nat) (x1 : Int32) (x2 : Int32) (x3 : Int32) (x4 : Int32)     (M : xM)  : AW SM l RX12 cX12_openWithin 9 (some .int) 2 ki (F_X12_openWithin fu x1 x2 x3 x4  M) 0 [some (xr 0), some (xi x1), some (xi x2), some (xi x3), some (xi x4), none, none, none, none] [] M := by
  unfold F_X12_openWithin
  refine A_aload_n dX12_openWithin_0 rfl ?_
  refine A_iload_n dX12_openWithin_1 rfl ?_
  refine A_callVv (a_X12_goSeals (l := l) fu _ _ ) lc_X12_498 rfl rfl (by decide) (Nat.le_of_ble_eq_true rfl) rfl dX12_openWithin_2 (fun q1 hq1 => ?_)
  refine A_iconst (v := (0 : Int32)) dX12_openWithin_5 oI_0 ?_
  refine A_istore dX12_openWithin_6 (Nat.le_of_ble_eq_true rfl) rfl ?_
  refine A_iconst (v := (0 : Int32)) dX12_openWithin_8 oI_0 ?_
  refine A_istore dX12_openWithin_9 (Nat.le_of_ble_eq_true rfl) rfl ?_
  exact (a_X12_openWithin_b11 (l := l) fu x1 x2 x3 x4  fu _ _ _).sub ⟨rfl, rfl, rfl, rfl, rfl, rfl, rfl, trivial⟩
theorem a_X12_openWithin {l : Launch} (fu : Nat)  (x1 : Int32) (x2 : Int32) (x3 : Int32) (x4 : Int32) (M : xM)  : AM SM l yX12_openWithin cX12_openWithin 9 (some .int) 2 ki [xr 0, xi x1, xi x2, xi x3, xi x4] M (F_X12_openWithin fu x1 x2 x3 x4  M) :=
  AM.of (L0 := [some (xr 0), some (xi x1), some (xi x2), some (xi x3), some (xi x4), none, none, none, none]) (w_X12_openWithin (l := l) fu x1 x2 x3 x4  M ) (by decide +kernel) rfl (Nat.le_of_ble_eq_true rfl) ⟨rfl, rfl, rfl, rfl, rfl, trivial⟩
def P_X12_isSpan  (x0 : Int32) (x1 : Int32)   (M : xM) : Int32 :=
  (if (P_X12_isIn x0 (0 : Int32) (9999 : Int32) M) = 0 then
  (0 : Int32)
  else
  (if (P_X12_isIn x1 (x0 + (1 : Int32)) (9999 : Int32) M) = 0 then
  (0 : Int32)
  else
  (1 : Int32)))
set_option maxRecDepth 100000 in
set_option maxHeartbeats 4000000 in
theorem w_X12_isSpan {l : Launch} (x0 : Int32) (x1 : Int32)     (M : xM)  : AW SM l RX12 cX12_isSpan 2 (some .boolean) 1 ki (some (P_X12_isSpan x0 x1  M, M)) 0 [some (xi x0), some (xi x1)] [] M := by
  unfold P_X12_isSpan
  refine A_iload_n dX12_isSpan_0 rfl ?_
  refine A_iconst (v := (0 : Int32)) dX12_isSpan_1 oI_0 ?_
  refine A_sipush (v := (9999 : Int32)) dX12_isSpan_2 oS_9999 ?_
  refine A_callSp (a_X12_isIn (l := l) _ _ _ _ ) lc_X12_196 rfl (by decide) (Nat.le_of_ble_eq_true rfl) rfl dX12_isSpan_5 ?_
  refine A_if_eq_p (tgt := 28) dX12_isSpan_8 (by decide) (fun _ => ?_) (fun _ => ?_)
  · refine A_iconst (v := (0 : Int32)) dX12_isSpan_28 oI_0 ?_
    exact A_zret' rfl (Or.inl rfl) dX12_isSpan_29
  · refine A_iload_n dX12_isSpan_11 rfl ?_
    refine A_iload_n dX12_isSpan_12 rfl ?_
    refine A_iconst (v := (1 : Int32)) dX12_isSpan_13 oI_1 ?_
    refine A_iadd dX12_isSpan_14 ?_
    refine A_sipush (v := (9999 : Int32)) dX12_isSpan_15 oS_9999 ?_
    refine A_callSp (a_X12_isIn (l := l) _ _ _ _ ) lc_X12_196 rfl (by decide) (Nat.le_of_ble_eq_true rfl) rfl dX12_isSpan_18 ?_
    refine A_if_eq_p (tgt := 28) dX12_isSpan_21 (by decide) (fun _ => ?_) (fun _ => ?_)
    · refine A_iconst (v := (0 : Int32)) dX12_isSpan_28 oI_0 ?_
      exact A_zret' rfl (Or.inl rfl) dX12_isSpan_29
    · refine A_iconst (v := (1 : Int32)) dX12_isSpan_24 oI_1 ?_
      refine A_goto (tgt := 29) dX12_isSpan_25 (by decide) ?_
      exact A_zret' rfl (Or.inr rfl) dX12_isSpan_29
theorem a_X12_isSpan {l : Launch}  (x0 : Int32) (x1 : Int32) (M : xM)  : AM SM l yX12_isSpan cX12_isSpan 2 (some .boolean) 1 ki [xi x0, xi x1] M (some (P_X12_isSpan  x0 x1  M, M)) :=
  AM.of (L0 := [some (xi x0), some (xi x1)]) (w_X12_isSpan (l := l) x0 x1  M ) (by decide +kernel) rfl (Nat.le_of_ble_eq_true rfl) ⟨rfl, rfl, trivial⟩
theorem zP_X12_isSpan (x0 : Int32) (x1 : Int32) (M : xM) : P_X12_isSpan x0 x1 M = 0 ∨ P_X12_isSpan x0 x1 M = 1 := by
  unfold P_X12_isSpan
  repeat' split
  all_goals first | decide | with_reducible exact zP_X12_isIn _ _ _ _
def F_X12_exposed (fu : Nat)  (x1 : Int32) (x2 : Int32) (x3 : Int32)   (M : xM) : Option (Int32 × xM) :=
  (if (P_X12_isMachine x1 (xset M 0 0 (0 : Int32))) = 0 then
  some ((-1 : Int32), (xset M 0 0 (0 : Int32)))
  else
  (if (P_X12_isSpan x2 x3 (xset M 0 0 (0 : Int32))) = 0 then
  some ((-1 : Int32), (xset M 0 0 (0 : Int32)))
  else
  (F_X12_openWithin fu x1 x2 x3 (-1 : Int32) (xset M 0 0 (0 : Int32))).bind fun q1 =>
  some (q1.1, q1.2)))
set_option maxRecDepth 100000 in
set_option maxHeartbeats 4000000 in
theorem w_X12_exposed {l : Launch} (fu : Nat) (x1 : Int32) (x2 : Int32) (x3 : Int32)     (M : xM)  : AW SM l RX12 cX12_exposed 4 (some .int) 3 ki (F_X12_exposed fu x1 x2 x3  M) 0 [some (xr 0), some (xi x1), some (xi x2), some (xi x3)] [] M := by
  unfold F_X12_exposed
  refine A_aload_n dX12_exposed_0 rfl ?_
  refine A_iconst (v := (0 : Int32)) dX12_exposed_1 oI_0 ?_
  refine A_puti lf_X12_180 rfl rfl dX12_exposed_2 ?_
  refine A_aload_n dX12_exposed_5 rfl ?_
  refine A_iload_n dX12_exposed_6 rfl ?_
  refine A_callVp (a_X12_isMachine (l := l) _ _ ) lc_X12_337 rfl rfl (by decide) (Nat.le_of_ble_eq_true rfl) rfl dX12_exposed_7 ?_
  refine A_if_eq (tgt := 32) dX12_exposed_10 (by decide) (fun _ => ?_) (fun _ => ?_)
  · refine A_iconst (v := (-1 : Int32)) dX12_exposed_32 oI_m1 ?_
    exact A_iret rfl dX12_exposed_33
  · refine A_iload_n dX12_exposed_13 rfl ?_
    refine A_iload_n dX12_exposed_14 rfl ?_
    refine A_callSp (a_X12_isSpan (l := l) _ _ _ ) lc_X12_501 rfl (by decide) (Nat.le_of_ble_eq_true rfl) rfl dX12_exposed_15 ?_
    refine A_if_eq (tgt := 32) dX12_exposed_18 (by decide) (fun _ => ?_) (fun _ => ?_)
    · refine A_iconst (v := (-1 : Int32)) dX12_exposed_32 oI_m1 ?_
      exact A_iret rfl dX12_exposed_33
    · refine A_aload_n dX12_exposed_21 rfl ?_
      refine A_iload_n dX12_exposed_22 rfl ?_
      refine A_iload_n dX12_exposed_23 rfl ?_
      refine A_iload_n dX12_exposed_24 rfl ?_
      refine A_iconst (v := (-1 : Int32)) dX12_exposed_25 oI_m1 ?_
      refine A_callVi (a_X12_openWithin (l := l) fu _ _ _ _ _ ) lc_X12_504 rfl rfl (by decide) (Nat.le_of_ble_eq_true rfl) rfl dX12_exposed_26 (fun q1 Mq1 hq1 => ?_)
      refine A_goto (tgt := 33) dX12_exposed_29 (by decide) ?_
      exact A_iret rfl dX12_exposed_33
theorem a_X12_exposed {l : Launch} (fu : Nat)  (x1 : Int32) (x2 : Int32) (x3 : Int32) (M : xM)  : AM SM l yX12_exposed cX12_exposed 4 (some .int) 3 ki [xr 0, xi x1, xi x2, xi x3] M (F_X12_exposed fu x1 x2 x3  M) :=
  AM.of (L0 := [some (xr 0), some (xi x1), some (xi x2), some (xi x3)]) (w_X12_exposed (l := l) fu x1 x2 x3  M ) (by decide +kernel) rfl (Nat.le_of_ble_eq_true rfl) ⟨rfl, rfl, rfl, rfl, trivial⟩
def F_X12_placeAt_b80 (fu : Nat)  (x1 : Int32) (x2 : Int32) (k34 : Int32 → Int32 → xM → Option (Int32 × xM)) (x3 : Int32) (x4 : Int32) (M : xM) : Option (Int32 × xM) :=
  k34 x3 (x4 + (1 : Int32)) M
set_option maxRecDepth 100000 in
set_option maxHeartbeats 4000000 in
theorem a_X12_placeAt_b80 {l : Launch} (fu : Nat) (x1 : Int32) (x2 : Int32)  {k34 : Int32 → Int32 → xM → Option (Int32 × xM)} (hk34 : ∀ (b0 : Int32) (b1 : Int32) (M : xM), AW SM l RX12 cX12_placeAt 5 (some .int) 1 ki (k34 b0 b1 M) 34 [some (xr 0), some (xi x1), some (xi x2), some (xi b0), some (xi b1)] [] M) (x3 : Int32) (x4 : Int32) (M : xM)  : AW SM l RX12 cX12_placeAt 5 (some .int) 1 ki (F_X12_placeAt_b80 fu x1 x2 k34 x3 x4 M) 80 [some (xr 0), some (xi x1), some (xi x2), some (xi x3), some (xi x4)] [] M := by
  unfold F_X12_placeAt_b80
  refine A_iinc dX12_placeAt_80 rfl oI_1 (Nat.le_of_ble_eq_true rfl) rfl ?_
  refine A_goto (tgt := 34) dX12_placeAt_83 (by decide) ?_
  exact (hk34 _ _ _).sub ⟨rfl, rfl, rfl, rfl, rfl, trivial⟩
def F_X12_placeAt_b34 (fu : Nat)  (x1 : Int32) (x2 : Int32)  : Nat → Int32 → Int32 → xM → Option (Int32 × xM)
  | 0, _, _, _ => none
  | n + 1, x3, x4, M =>
    (if x1 < 0 ∨ 6 ≤ x1.toNatClampNeg then none else
    (if (((20 : Int32) * x1) + (M 38 x1.toNatClampNeg)) ≤ x4 then
    some (x3, M)
    else
    (if x4 < 0 ∨ 120 ≤ x4.toNatClampNeg then none else
    (if (M 40 x4.toNatClampNeg) = (3 : Int32) then
    (if x4 < 0 ∨ 120 ≤ x4.toNatClampNeg then none else
    (if x2 < (M 39 x4.toNatClampNeg) then
    F_X12_placeAt_b80 fu x1 x2 (F_X12_placeAt_b34 fu x1 x2 n) x3 x4 M
    else
    (if x4 < 0 ∨ 120 ≤ x4.toNatClampNeg then none else
    F_X12_placeAt_b80 fu x1 x2 (F_X12_placeAt_b34 fu x1 x2 n) (M 41 x4.toNatClampNeg) x4 M)))
    else
    F_X12_placeAt_b80 fu x1 x2 (F_X12_placeAt_b34 fu x1 x2 n) x3 x4 M))))
set_option maxRecDepth 100000 in
set_option maxHeartbeats 4000000 in
theorem a_X12_placeAt_b34 {l : Launch} (fu : Nat) (x1 : Int32) (x2 : Int32)    : ∀ (n : Nat) (x3 : Int32) (x4 : Int32) (M : xM), AW SM l RX12 cX12_placeAt 5 (some .int) 1 ki (F_X12_placeAt_b34 fu x1 x2 n x3 x4 M) 34 [some (xr 0), some (xi x1), some (xi x2), some (xi x3), some (xi x4)] [] M := by
  intro n
  induction n with
  | zero =>
    intro x3 x4 M
    exact AW.none
  | succ n ih =>
    intro x3 x4 M
    rw [F_X12_placeAt_b34]
    refine A_iload dX12_placeAt_34 rfl ?_
    refine A_bipush (v := (20 : Int32)) dX12_placeAt_36 oB_20 ?_
    refine A_iload_n dX12_placeAt_38 rfl ?_
    refine A_imul dX12_placeAt_39 ?_
    refine A_aload_n dX12_placeAt_40 rfl ?_
    refine A_getr lf_X12_144 rfl rfl dX12_placeAt_41 ?_
    refine A_iload_n dX12_placeAt_44 rfl ?_
    refine A_iald rfl dX12_placeAt_45 (fun _ => ?_)
    refine A_iadd dX12_placeAt_46 ?_
    refine A_icmp_ge (tgt := 86) dX12_placeAt_47 (by decide) (fun _ => ?_) (fun _ => ?_)
    · refine A_iload_n dX12_placeAt_86 rfl ?_
      exact A_iret rfl dX12_placeAt_87
    · refine A_aload_n dX12_placeAt_50 rfl ?_
      refine A_getr lf_X12_150 rfl rfl dX12_placeAt_51 ?_
      refine A_iload dX12_placeAt_54 rfl ?_
      refine A_iald rfl dX12_placeAt_56 (fun _ => ?_)
      refine A_iconst (v := (3 : Int32)) dX12_placeAt_57 oI_3 ?_
      refine A_icmp_ne (tgt := 80) dX12_placeAt_58 (by decide) (fun _ => ?_) (fun _ => ?_)
      · refine A_aload_n dX12_placeAt_61 rfl ?_
        refine A_getr lf_X12_147 rfl rfl dX12_placeAt_62 ?_
        refine A_iload dX12_placeAt_65 rfl ?_
        refine A_iald rfl dX12_placeAt_67 (fun _ => ?_)
        refine A_iload_n dX12_placeAt_68 rfl ?_
        refine A_icmp_gt (tgt := 80) dX12_placeAt_69 (by decide) (fun _ => ?_) (fun _ => ?_)
        · exact (a_X12_placeAt_b80 (l := l) fu x1 x2 ih _ _ _ ).sub ⟨rfl, rfl, rfl, rfl, rfl, trivial⟩
        · refine A_aload_n dX12_placeAt_72 rfl ?_
          refine A_getr lf_X12_153 rfl rfl dX12_placeAt_73 ?_
          refine A_iload dX12_placeAt_76 rfl ?_
          refine A_iald rfl dX12_placeAt_78 (fun _ => ?_)
          refine A_istore_n dX12_placeAt_79 (Nat.le_of_ble_eq_true rfl) rfl ?_
          exact (a_X12_placeAt_b80 (l := l) fu x1 x2 ih _ _ _ ).sub ⟨rfl, rfl, rfl, rfl, rfl, trivial⟩
      · exact (a_X12_placeAt_b80 (l := l) fu x1 x2 ih _ _ _ ).sub ⟨rfl, rfl, rfl, rfl, rfl, trivial⟩
def F_X12_placeAt (fu : Nat)  (x1 : Int32) (x2 : Int32)   (M : xM) : Option (Int32 × xM) :=
  (if (P_X12_isMachine x1 (xset M 0 0 (0 : Int32))) = 0 then
  some ((-1 : Int32), (xset M 0 0 (0 : Int32)))
  else
  (if (P_X12_isIn x2 (0 : Int32) (9999 : Int32) (xset M 0 0 (0 : Int32))) = 0 then
  some ((-1 : Int32), (xset M 0 0 (0 : Int32)))
  else
  F_X12_placeAt_b34 fu x1 x2 fu (0 : Int32) ((20 : Int32) * x1) (xset M 0 0 (0 : Int32))))
set_option maxRecDepth 100000 in
set_option maxHeartbeats 4000000 in
theorem w_X12_placeAt {l : Launch} (fu : Nat) (x1 : Int32) (x2 : Int32)     (M : xM)  : AW SM l RX12 cX12_placeAt 5 (some .int) 1 ki (F_X12_placeAt fu x1 x2  M) 0 [some (xr 0), some (xi x1), some (xi x2), none, none] [] M := by
  unfold F_X12_placeAt
  refine A_aload_n dX12_placeAt_0 rfl ?_
  refine A_iconst (v := (0 : Int32)) dX12_placeAt_1 oI_0 ?_
  refine A_puti lf_X12_180 rfl rfl dX12_placeAt_2 ?_
  refine A_aload_n dX12_placeAt_5 rfl ?_
  refine A_iload_n dX12_placeAt_6 rfl ?_
  refine A_callVp (a_X12_isMachine (l := l) _ _ ) lc_X12_337 rfl rfl (by decide) (Nat.le_of_ble_eq_true rfl) rfl dX12_placeAt_7 ?_
  refine A_if_eq (tgt := 24) dX12_placeAt_10 (by decide) (fun _ => ?_) (fun _ => ?_)
  · refine A_iconst (v := (-1 : Int32)) dX12_placeAt_24 oI_m1 ?_
    exact A_iret rfl dX12_placeAt_25
  · refine A_iload_n dX12_placeAt_13 rfl ?_
    refine A_iconst (v := (0 : Int32)) dX12_placeAt_14 oI_0 ?_
    refine A_sipush (v := (9999 : Int32)) dX12_placeAt_15 oS_9999 ?_
    refine A_callSp (a_X12_isIn (l := l) _ _ _ _ ) lc_X12_196 rfl (by decide) (Nat.le_of_ble_eq_true rfl) rfl dX12_placeAt_18 ?_
    refine A_if_ne (tgt := 26) dX12_placeAt_21 (by decide) (fun _ => ?_) (fun _ => ?_)
    · refine A_iconst (v := (-1 : Int32)) dX12_placeAt_24 oI_m1 ?_
      exact A_iret rfl dX12_placeAt_25
    · refine A_iconst (v := (0 : Int32)) dX12_placeAt_26 oI_0 ?_
      refine A_istore_n dX12_placeAt_27 (Nat.le_of_ble_eq_true rfl) rfl ?_
      refine A_bipush (v := (20 : Int32)) dX12_placeAt_28 oB_20 ?_
      refine A_iload_n dX12_placeAt_30 rfl ?_
      refine A_imul dX12_placeAt_31 ?_
      refine A_istore dX12_placeAt_32 (Nat.le_of_ble_eq_true rfl) rfl ?_
      exact (a_X12_placeAt_b34 (l := l) fu x1 x2  fu _ _ _).sub ⟨rfl, rfl, rfl, rfl, rfl, trivial⟩
theorem a_X12_placeAt {l : Launch} (fu : Nat)  (x1 : Int32) (x2 : Int32) (M : xM)  : AM SM l yX12_placeAt cX12_placeAt 5 (some .int) 1 ki [xr 0, xi x1, xi x2] M (F_X12_placeAt fu x1 x2  M) :=
  AM.of (L0 := [some (xr 0), some (xi x1), some (xi x2), none, none]) (w_X12_placeAt (l := l) fu x1 x2  M ) (by decide +kernel) rfl (Nat.le_of_ble_eq_true rfl) ⟨rfl, rfl, rfl, trivial⟩
def F_X12_alone (fu : Nat)  (x1 : Int32) (x2 : Int32) (x3 : Int32) (x4 : Int32)   (M : xM) : Option (Int32 × xM) :=
  (if (P_X12_isMachine x1 (xset M 0 0 (0 : Int32))) = 0 then
  some ((-1 : Int32), (xset M 0 0 (0 : Int32)))
  else
  (if (P_X12_isIn x2 (0 : Int32) (9 : Int32) (xset M 0 0 (0 : Int32))) = 0 then
  some ((-1 : Int32), (xset M 0 0 (0 : Int32)))
  else
  (if (P_X12_isSpan x3 x4 (xset M 0 0 (0 : Int32))) = 0 then
  some ((-1 : Int32), (xset M 0 0 (0 : Int32)))
  else
  (F_X12_openWithin fu x1 x3 x4 x2 (xset M 0 0 (0 : Int32))).bind fun q1 =>
  some (q1.1, q1.2))))
set_option maxRecDepth 100000 in
set_option maxHeartbeats 4000000 in
theorem w_X12_alone {l : Launch} (fu : Nat) (x1 : Int32) (x2 : Int32) (x3 : Int32) (x4 : Int32)     (M : xM)  : AW SM l RX12 cX12_alone 5 (some .int) 3 ki (F_X12_alone fu x1 x2 x3 x4  M) 0 [some (xr 0), some (xi x1), some (xi x2), some (xi x3), some (xi x4)] [] M := by
  unfold F_X12_alone
  refine A_aload_n dX12_alone_0 rfl ?_
  refine A_iconst (v := (0 : Int32)) dX12_alone_1 oI_0 ?_
  refine A_puti lf_X12_180 rfl rfl dX12_alone_2 ?_
  refine A_aload_n dX12_alone_5 rfl ?_
  refine A_iload_n dX12_alone_6 rfl ?_
  refine A_callVp (a_X12_isMachine (l := l) _ _ ) lc_X12_337 rfl rfl (by decide) (Nat.le_of_ble_eq_true rfl) rfl dX12_alone_7 ?_
  refine A_if_eq (tgt := 44) dX12_alone_10 (by decide) (fun _ => ?_) (fun _ => ?_)
  · refine A_iconst (v := (-1 : Int32)) dX12_alone_44 oI_m1 ?_
    exact A_iret rfl dX12_alone_45
  · refine A_iload_n dX12_alone_13 rfl ?_
    refine A_iconst (v := (0 : Int32)) dX12_alone_14 oI_0 ?_
    refine A_bipush (v := (9 : Int32)) dX12_alone_15 oB_9 ?_
    refine A_callSp (a_X12_isIn (l := l) _ _ _ _ ) lc_X12_196 rfl (by decide) (Nat.le_of_ble_eq_true rfl) rfl dX12_alone_17 ?_
    refine A_if_eq (tgt := 44) dX12_alone_20 (by decide) (fun _ => ?_) (fun _ => ?_)
    · refine A_iconst (v := (-1 : Int32)) dX12_alone_44 oI_m1 ?_
      exact A_iret rfl dX12_alone_45
    · refine A_iload_n dX12_alone_23 rfl ?_
      refine A_iload dX12_alone_24 rfl ?_
      refine A_callSp (a_X12_isSpan (l := l) _ _ _ ) lc_X12_501 rfl (by decide) (Nat.le_of_ble_eq_true rfl) rfl dX12_alone_26 ?_
      refine A_if_eq (tgt := 44) dX12_alone_29 (by decide) (fun _ => ?_) (fun _ => ?_)
      · refine A_iconst (v := (-1 : Int32)) dX12_alone_44 oI_m1 ?_
        exact A_iret rfl dX12_alone_45
      · refine A_aload_n dX12_alone_32 rfl ?_
        refine A_iload_n dX12_alone_33 rfl ?_
        refine A_iload_n dX12_alone_34 rfl ?_
        refine A_iload dX12_alone_35 rfl ?_
        refine A_iload_n dX12_alone_37 rfl ?_
        refine A_callVi (a_X12_openWithin (l := l) fu _ _ _ _ _ ) lc_X12_504 rfl rfl (by decide) (Nat.le_of_ble_eq_true rfl) rfl dX12_alone_38 (fun q1 Mq1 hq1 => ?_)
        refine A_goto (tgt := 45) dX12_alone_41 (by decide) ?_
        exact A_iret rfl dX12_alone_45
theorem a_X12_alone {l : Launch} (fu : Nat)  (x1 : Int32) (x2 : Int32) (x3 : Int32) (x4 : Int32) (M : xM)  : AM SM l yX12_alone cX12_alone 5 (some .int) 3 ki [xr 0, xi x1, xi x2, xi x3, xi x4] M (F_X12_alone fu x1 x2 x3 x4  M) :=
  AM.of (L0 := [some (xr 0), some (xi x1), some (xi x2), some (xi x3), some (xi x4)]) (w_X12_alone (l := l) fu x1 x2 x3 x4  M ) (by decide +kernel) rfl (Nat.le_of_ble_eq_true rfl) ⟨rfl, rfl, rfl, rfl, rfl, trivial⟩
def P_X12_isCounter  (x1 : Int32) (x2 : Int32)   (M : xM) : Int32 :=
  (if (P_X12_isMachine x1 M) = 0 then
  (0 : Int32)
  else
  (if (P_X12_isLever x2 M) = 0 then
  (0 : Int32)
  else
  (1 : Int32)))
set_option maxRecDepth 100000 in
set_option maxHeartbeats 4000000 in
theorem w_X12_isCounter {l : Launch} (x1 : Int32) (x2 : Int32)     (M : xM)  : AW SM l RX12 cX12_isCounter 3 (some .boolean) 1 ki (some (P_X12_isCounter x1 x2  M, M)) 0 [some (xr 0), some (xi x1), some (xi x2)] [] M := by
  unfold P_X12_isCounter
  refine A_aload_n dX12_isCounter_0 rfl ?_
  refine A_iload_n dX12_isCounter_1 rfl ?_
  refine A_callVp (a_X12_isMachine (l := l) _ _ ) lc_X12_337 rfl rfl (by decide) (Nat.le_of_ble_eq_true rfl) rfl dX12_isCounter_2 ?_
  refine A_if_eq_p (tgt := 20) dX12_isCounter_5 (by decide) (fun _ => ?_) (fun _ => ?_)
  · refine A_iconst (v := (0 : Int32)) dX12_isCounter_20 oI_0 ?_
    exact A_zret' rfl (Or.inl rfl) dX12_isCounter_21
  · refine A_aload_n dX12_isCounter_8 rfl ?_
    refine A_iload_n dX12_isCounter_9 rfl ?_
    refine A_callVp (a_X12_isLever (l := l) _ _ ) lc_X12_343 rfl rfl (by decide) (Nat.le_of_ble_eq_true rfl) rfl dX12_isCounter_10 ?_
    refine A_if_eq_p (tgt := 20) dX12_isCounter_13 (by decide) (fun _ => ?_) (fun _ => ?_)
    · refine A_iconst (v := (0 : Int32)) dX12_isCounter_20 oI_0 ?_
      exact A_zret' rfl (Or.inl rfl) dX12_isCounter_21
    · refine A_iconst (v := (1 : Int32)) dX12_isCounter_16 oI_1 ?_
      refine A_goto (tgt := 21) dX12_isCounter_17 (by decide) ?_
      exact A_zret' rfl (Or.inr rfl) dX12_isCounter_21
theorem a_X12_isCounter {l : Launch}  (x1 : Int32) (x2 : Int32) (M : xM)  : AM SM l yX12_isCounter cX12_isCounter 3 (some .boolean) 1 ki [xr 0, xi x1, xi x2] M (some (P_X12_isCounter  x1 x2  M, M)) :=
  AM.of (L0 := [some (xr 0), some (xi x1), some (xi x2)]) (w_X12_isCounter (l := l) x1 x2  M ) (by decide +kernel) rfl (Nat.le_of_ble_eq_true rfl) ⟨rfl, rfl, rfl, trivial⟩
theorem zP_X12_isCounter (x1 : Int32) (x2 : Int32) (M : xM) : P_X12_isCounter x1 x2 M = 0 ∨ P_X12_isCounter x1 x2 M = 1 := by
  unfold P_X12_isCounter
  repeat' split
  all_goals first | decide | with_reducible exact zP_X12_isMachine _ _ | with_reducible exact zP_X12_isLever _ _
def F_X12_recount  (x1 : Int32) (x2 : Int32) (x3 : Int32)   (M : xM) : Option (Int32 × xM) :=
  (if (P_X12_isCounter x1 x2 (xset M 0 0 (0 : Int32))) = 0 then
  some ((-1 : Int32), (xset M 0 0 (0 : Int32)))
  else
  (if (P_X12_isNumber x3 (xset M 0 0 (0 : Int32))) = 0 then
  some ((-1 : Int32), (xset M 0 0 (0 : Int32)))
  else
  (if (((16 : Int32) * x1) + x2) < 0 ∨ 96 ≤ (((16 : Int32) * x1) + x2).toNatClampNeg then none else
  (if ((xset M 0 0 (0 : Int32)) 44 (((16 : Int32) * x1) + x2).toNatClampNeg) = (8 : Int32) then
  some ((-1 : Int32), (xset M 0 0 (0 : Int32)))
  else
  (if (((16 : Int32) * x1) + x2) < 0 ∨ 96 ≤ (((16 : Int32) * x1) + x2).toNatClampNeg then none else
  (if (((8 : Int32) * (((16 : Int32) * x1) + x2)) + ((xset M 0 0 (0 : Int32)) 44 (((16 : Int32) * x1) + x2).toNatClampNeg)) < 0 ∨ 768 ≤ (((8 : Int32) * (((16 : Int32) * x1) + x2)) + ((xset M 0 0 (0 : Int32)) 44 (((16 : Int32) * x1) + x2).toNatClampNeg)).toNatClampNeg then none else
  (if (((16 : Int32) * x1) + x2) < 0 ∨ 96 ≤ (((16 : Int32) * x1) + x2).toNatClampNeg then none else
  (if (((16 : Int32) * x1) + x2) < 0 ∨ 96 ≤ (((16 : Int32) * x1) + x2).toNatClampNeg then none else
  (if (((16 : Int32) * x1) + x2) < 0 ∨ 96 ≤ (((16 : Int32) * x1) + x2).toNatClampNeg then none else
  some (((xset (xset (xset M 0 0 (0 : Int32)) 45 (((8 : Int32) * (((16 : Int32) * x1) + x2)) + ((xset M 0 0 (0 : Int32)) 44 (((16 : Int32) * x1) + x2).toNatClampNeg)).toNatClampNeg x3) 44 (((16 : Int32) * x1) + x2).toNatClampNeg (((xset (xset M 0 0 (0 : Int32)) 45 (((8 : Int32) * (((16 : Int32) * x1) + x2)) + ((xset M 0 0 (0 : Int32)) 44 (((16 : Int32) * x1) + x2).toNatClampNeg)).toNatClampNeg x3) 44 (((16 : Int32) * x1) + x2).toNatClampNeg) + (1 : Int32))) 44 (((16 : Int32) * x1) + x2).toNatClampNeg), (xset (xset (xset M 0 0 (0 : Int32)) 45 (((8 : Int32) * (((16 : Int32) * x1) + x2)) + ((xset M 0 0 (0 : Int32)) 44 (((16 : Int32) * x1) + x2).toNatClampNeg)).toNatClampNeg x3) 44 (((16 : Int32) * x1) + x2).toNatClampNeg (((xset (xset M 0 0 (0 : Int32)) 45 (((8 : Int32) * (((16 : Int32) * x1) + x2)) + ((xset M 0 0 (0 : Int32)) 44 (((16 : Int32) * x1) + x2).toNatClampNeg)).toNatClampNeg x3) 44 (((16 : Int32) * x1) + x2).toNatClampNeg) + (1 : Int32)))))))))))))
set_option maxRecDepth 100000 in
set_option maxHeartbeats 4000000 in
theorem w_X12_recount {l : Launch} (x1 : Int32) (x2 : Int32) (x3 : Int32)     (M : xM)  : AW SM l RX12 cX12_recount 5 (some .int) 2 ki (F_X12_recount x1 x2 x3  M) 0 [some (xr 0), some (xi x1), some (xi x2), some (xi x3), none] [] M := by
  unfold F_X12_recount
  refine A_aload_n dX12_recount_0 rfl ?_
  refine A_iconst (v := (0 : Int32)) dX12_recount_1 oI_0 ?_
  refine A_puti lf_X12_180 rfl rfl dX12_recount_2 ?_
  refine A_aload_n dX12_recount_5 rfl ?_
  refine A_iload_n dX12_recount_6 rfl ?_
  refine A_iload_n dX12_recount_7 rfl ?_
  refine A_callVp (a_X12_isCounter (l := l) _ _ _ ) lc_X12_507 rfl rfl (by decide) (Nat.le_of_ble_eq_true rfl) rfl dX12_recount_8 ?_
  refine A_if_eq (tgt := 37) dX12_recount_11 (by decide) (fun _ => ?_) (fun _ => ?_)
  · refine A_iconst (v := (-1 : Int32)) dX12_recount_37 oI_m1 ?_
    exact A_iret rfl dX12_recount_38
  · refine A_iload_n dX12_recount_14 rfl ?_
    refine A_callSp (a_X12_isNumber (l := l) _ _ ) lc_X12_334 rfl (by decide) (Nat.le_of_ble_eq_true rfl) rfl dX12_recount_15 ?_
    refine A_if_eq (tgt := 37) dX12_recount_18 (by decide) (fun _ => ?_) (fun _ => ?_)
    · refine A_iconst (v := (-1 : Int32)) dX12_recount_37 oI_m1 ?_
      exact A_iret rfl dX12_recount_38
    · refine A_aload_n dX12_recount_21 rfl ?_
      refine A_getr lf_X12_162 rfl rfl dX12_recount_22 ?_
      refine A_bipush (v := (16 : Int32)) dX12_recount_25 oB_16 ?_
      refine A_iload_n dX12_recount_27 rfl ?_
      refine A_imul dX12_recount_28 ?_
      refine A_iload_n dX12_recount_29 rfl ?_
      refine A_iadd dX12_recount_30 ?_
      refine A_iald rfl dX12_recount_31 (fun _ => ?_)
      refine A_bipush (v := (8 : Int32)) dX12_recount_32 oB_8 ?_
      refine A_icmp_ne (tgt := 39) dX12_recount_34 (by decide) (fun _ => ?_) (fun _ => ?_)
      · refine A_iconst (v := (-1 : Int32)) dX12_recount_37 oI_m1 ?_
        exact A_iret rfl dX12_recount_38
      · refine A_bipush (v := (16 : Int32)) dX12_recount_39 oB_16 ?_
        refine A_iload_n dX12_recount_41 rfl ?_
        refine A_imul dX12_recount_42 ?_
        refine A_iload_n dX12_recount_43 rfl ?_
        refine A_iadd dX12_recount_44 ?_
        refine A_istore dX12_recount_45 (Nat.le_of_ble_eq_true rfl) rfl ?_
        refine A_aload_n dX12_recount_47 rfl ?_
        refine A_getr lf_X12_165 rfl rfl dX12_recount_48 ?_
        refine A_bipush (v := (8 : Int32)) dX12_recount_51 oB_8 ?_
        refine A_iload dX12_recount_53 rfl ?_
        refine A_imul dX12_recount_55 ?_
        refine A_aload_n dX12_recount_56 rfl ?_
        refine A_getr lf_X12_162 rfl rfl dX12_recount_57 ?_
        refine A_iload dX12_recount_60 rfl ?_
        refine A_iald rfl dX12_recount_62 (fun _ => ?_)
        refine A_iadd dX12_recount_63 ?_
        refine A_iload_n dX12_recount_64 rfl ?_
        refine A_iast rfl dX12_recount_65 (fun _ => ?_)
        refine A_aload_n dX12_recount_66 rfl ?_
        refine A_getr lf_X12_162 rfl rfl dX12_recount_67 ?_
        refine A_iload dX12_recount_70 rfl ?_
        refine A_dup2 dX12_recount_72 rfl rfl ?_
        refine A_iald rfl dX12_recount_73 (fun _ => ?_)
        refine A_iconst (v := (1 : Int32)) dX12_recount_74 oI_1 ?_
        refine A_iadd dX12_recount_75 ?_
        refine A_iast rfl dX12_recount_76 (fun _ => ?_)
        refine A_aload_n dX12_recount_77 rfl ?_
        refine A_getr lf_X12_162 rfl rfl dX12_recount_78 ?_
        refine A_iload dX12_recount_81 rfl ?_
        refine A_iald rfl dX12_recount_83 (fun _ => ?_)
        exact A_iret rfl dX12_recount_84
theorem a_X12_recount {l : Launch}  (x1 : Int32) (x2 : Int32) (x3 : Int32) (M : xM)  : AM SM l yX12_recount cX12_recount 5 (some .int) 2 ki [xr 0, xi x1, xi x2, xi x3] M (F_X12_recount  x1 x2 x3  M) :=
  AM.of (L0 := [some (xr 0), some (xi x1), some (xi x2), some (xi x3), none]) (w_X12_recount (l := l) x1 x2 x3  M ) (by decide +kernel) rfl (Nat.le_of_ble_eq_true rfl) ⟨rfl, rfl, rfl, rfl, trivial⟩
def F_X12_kept  (x1 : Int32) (x2 : Int32) (x3 : Int32)   (M : xM) : Option (Int32 × xM) :=
  (if (P_X12_isCounter x1 x2 (xset M 0 0 (0 : Int32))) = 0 then
  some ((-1 : Int32), (xset M 0 0 (0 : Int32)))
  else
  (if (((16 : Int32) * x1) + x2) < 0 ∨ 96 ≤ (((16 : Int32) * x1) + x2).toNatClampNeg then none else
  (if (P_X12_isIn x3 (0 : Int32) (((xset M 0 0 (0 : Int32)) 44 (((16 : Int32) * x1) + x2).toNatClampNeg) - (1 : Int32)) (xset M 0 0 (0 : Int32))) = 0 then
  some ((-1 : Int32), (xset M 0 0 (0 : Int32)))
  else
  (if (((8 : Int32) * (((16 : Int32) * x1) + x2)) + x3) < 0 ∨ 768 ≤ (((8 : Int32) * (((16 : Int32) * x1) + x2)) + x3).toNatClampNeg then none else
  some (((xset M 0 0 (0 : Int32)) 45 (((8 : Int32) * (((16 : Int32) * x1) + x2)) + x3).toNatClampNeg), (xset M 0 0 (0 : Int32)))))))
set_option maxRecDepth 100000 in
set_option maxHeartbeats 4000000 in
theorem w_X12_kept {l : Launch} (x1 : Int32) (x2 : Int32) (x3 : Int32)     (M : xM)  : AW SM l RX12 cX12_kept 4 (some .int) 2 ki (F_X12_kept x1 x2 x3  M) 0 [some (xr 0), some (xi x1), some (xi x2), some (xi x3)] [] M := by
  unfold F_X12_kept
  refine A_aload_n dX12_kept_0 rfl ?_
  refine A_iconst (v := (0 : Int32)) dX12_kept_1 oI_0 ?_
  refine A_puti lf_X12_180 rfl rfl dX12_kept_2 ?_
  refine A_aload_n dX12_kept_5 rfl ?_
  refine A_iload_n dX12_kept_6 rfl ?_
  refine A_iload_n dX12_kept_7 rfl ?_
  refine A_callVp (a_X12_isCounter (l := l) _ _ _ ) lc_X12_507 rfl rfl (by decide) (Nat.le_of_ble_eq_true rfl) rfl dX12_kept_8 ?_
  refine A_if_eq (tgt := 54) dX12_kept_11 (by decide) (fun _ => ?_) (fun _ => ?_)
  · refine A_iconst (v := (-1 : Int32)) dX12_kept_54 oI_m1 ?_
    exact A_iret rfl dX12_kept_55
  · refine A_iload_n dX12_kept_14 rfl ?_
    refine A_iconst (v := (0 : Int32)) dX12_kept_15 oI_0 ?_
    refine A_aload_n dX12_kept_16 rfl ?_
    refine A_getr lf_X12_162 rfl rfl dX12_kept_17 ?_
    refine A_bipush (v := (16 : Int32)) dX12_kept_20 oB_16 ?_
    refine A_iload_n dX12_kept_22 rfl ?_
    refine A_imul dX12_kept_23 ?_
    refine A_iload_n dX12_kept_24 rfl ?_
    refine A_iadd dX12_kept_25 ?_
    refine A_iald rfl dX12_kept_26 (fun _ => ?_)
    refine A_iconst (v := (1 : Int32)) dX12_kept_27 oI_1 ?_
    refine A_isub dX12_kept_28 ?_
    refine A_callSp (a_X12_isIn (l := l) _ _ _ _ ) lc_X12_196 rfl (by decide) (Nat.le_of_ble_eq_true rfl) rfl dX12_kept_29 ?_
    refine A_if_eq (tgt := 54) dX12_kept_32 (by decide) (fun _ => ?_) (fun _ => ?_)
    · refine A_iconst (v := (-1 : Int32)) dX12_kept_54 oI_m1 ?_
      exact A_iret rfl dX12_kept_55
    · refine A_aload_n dX12_kept_35 rfl ?_
      refine A_getr lf_X12_165 rfl rfl dX12_kept_36 ?_
      refine A_bipush (v := (8 : Int32)) dX12_kept_39 oB_8 ?_
      refine A_bipush (v := (16 : Int32)) dX12_kept_41 oB_16 ?_
      refine A_iload_n dX12_kept_43 rfl ?_
      refine A_imul dX12_kept_44 ?_
      refine A_iload_n dX12_kept_45 rfl ?_
      refine A_iadd dX12_kept_46 ?_
      refine A_imul dX12_kept_47 ?_
      refine A_iload_n dX12_kept_48 rfl ?_
      refine A_iadd dX12_kept_49 ?_
      refine A_iald rfl dX12_kept_50 (fun _ => ?_)
      refine A_goto (tgt := 55) dX12_kept_51 (by decide) ?_
      exact A_iret rfl dX12_kept_55
theorem a_X12_kept {l : Launch}  (x1 : Int32) (x2 : Int32) (x3 : Int32) (M : xM)  : AM SM l yX12_kept cX12_kept 4 (some .int) 2 ki [xr 0, xi x1, xi x2, xi x3] M (F_X12_kept  x1 x2 x3  M) :=
  AM.of (L0 := [some (xr 0), some (xi x1), some (xi x2), some (xi x3)]) (w_X12_kept (l := l) x1 x2 x3  M ) (by decide +kernel) rfl (Nat.le_of_ble_eq_true rfl) ⟨rfl, rfl, rfl, rfl, trivial⟩
def F_X12_changed_b72 (fu : Nat)  (x1 : Int32) (x2 : Int32) (k37 : Int32 → Int32 → Int32 → Int32 → xM → Option (Int32 × xM)) (x3 : Int32) (x6 : Int32) (s0 : Int32) (s1 : Int32) (M : xM) : Option (Int32 × xM) :=
  (if (((8 : Int32) * x3) + x6) < 0 ∨ 768 ≤ (((8 : Int32) * x3) + x6).toNatClampNeg then none else
  k37 x3 (M 45 (((8 : Int32) * x3) + x6).toNatClampNeg) (s1 + s0) (x6 + (1 : Int32)) M)
set_option maxRecDepth 100000 in
set_option maxHeartbeats 4000000 in
theorem a_X12_changed_b72 {l : Launch} (fu : Nat) (x1 : Int32) (x2 : Int32)  {k37 : Int32 → Int32 → Int32 → Int32 → xM → Option (Int32 × xM)} (hk37 : ∀ (b0 : Int32) (b1 : Int32) (b2 : Int32) (b3 : Int32) (M : xM), AW SM l RX12 cX12_changed 7 (some .int) 2 ki (k37 b0 b1 b2 b3 M) 37 [some (xr 0), none, none, some (xi b0), some (xi b1), some (xi b2), some (xi b3)] [] M) (x3 : Int32) (x6 : Int32) (s0 : Int32) (s1 : Int32) (M : xM)  : AW SM l RX12 cX12_changed 7 (some .int) 2 ki (F_X12_changed_b72 fu x1 x2 k37 x3 x6 s0 s1 M) 72 [some (xr 0), none, none, some (xi x3), none, none, some (xi x6)] [xi s0, xi s1] M := by
  unfold F_X12_changed_b72
  refine A_iadd dX12_changed_72 ?_
  refine A_istore dX12_changed_73 (Nat.le_of_ble_eq_true rfl) rfl ?_
  refine A_aload_n dX12_changed_75 rfl ?_
  refine A_getr lf_X12_165 rfl rfl dX12_changed_76 ?_
  refine A_bipush (v := (8 : Int32)) dX12_changed_79 oB_8 ?_
  refine A_iload_n dX12_changed_81 rfl ?_
  refine A_imul dX12_changed_82 ?_
  refine A_iload dX12_changed_83 rfl ?_
  refine A_iadd dX12_changed_85 ?_
  refine A_iald rfl dX12_changed_86 (fun _ => ?_)
  refine A_istore dX12_changed_87 (Nat.le_of_ble_eq_true rfl) rfl ?_
  refine A_iinc dX12_changed_89 rfl oI_1 (Nat.le_of_ble_eq_true rfl) rfl ?_
  refine A_goto (tgt := 37) dX12_changed_92 (by decide) ?_
  exact (hk37 _ _ _ _ _).sub ⟨rfl, rfl, rfl, rfl, rfl, trivial⟩
def F_X12_changed_b37 (fu : Nat)  (x1 : Int32) (x2 : Int32)  : Nat → Int32 → Int32 → Int32 → Int32 → xM → Option (Int32 × xM)
  | 0, _, _, _, _, _ => none
  | n + 1, x3, x4, x5, x6, M =>
    (if x3 < 0 ∨ 96 ≤ x3.toNatClampNeg then none else
    (if (M 44 x3.toNatClampNeg) ≤ x6 then
    some (x5, M)
    else
    (if (((8 : Int32) * x3) + x6) < 0 ∨ 768 ≤ (((8 : Int32) * x3) + x6).toNatClampNeg then none else
    (if (M 45 (((8 : Int32) * x3) + x6).toNatClampNeg) = x4 then
    F_X12_changed_b72 fu x1 x2 (F_X12_changed_b37 fu x1 x2 n) x3 x6 (0 : Int32) x5 M
    else
    F_X12_changed_b72 fu x1 x2 (F_X12_changed_b37 fu x1 x2 n) x3 x6 (1 : Int32) x5 M))))
set_option maxRecDepth 100000 in
set_option maxHeartbeats 4000000 in
theorem a_X12_changed_b37 {l : Launch} (fu : Nat) (x1 : Int32) (x2 : Int32)    : ∀ (n : Nat) (x3 : Int32) (x4 : Int32) (x5 : Int32) (x6 : Int32) (M : xM), AW SM l RX12 cX12_changed 7 (some .int) 2 ki (F_X12_changed_b37 fu x1 x2 n x3 x4 x5 x6 M) 37 [some (xr 0), none, none, some (xi x3), some (xi x4), some (xi x5), some (xi x6)] [] M := by
  intro n
  induction n with
  | zero =>
    intro x3 x4 x5 x6 M
    exact AW.none
  | succ n ih =>
    intro x3 x4 x5 x6 M
    rw [F_X12_changed_b37]
    refine A_iload dX12_changed_37 rfl ?_
    refine A_aload_n dX12_changed_39 rfl ?_
    refine A_getr lf_X12_162 rfl rfl dX12_changed_40 ?_
    refine A_iload_n dX12_changed_43 rfl ?_
    refine A_iald rfl dX12_changed_44 (fun _ => ?_)
    refine A_icmp_ge (tgt := 95) dX12_changed_45 (by decide) (fun _ => ?_) (fun _ => ?_)
    · refine A_iload dX12_changed_95 rfl ?_
      exact A_iret rfl dX12_changed_97
    · refine A_iload dX12_changed_48 rfl ?_
      refine A_aload_n dX12_changed_50 rfl ?_
      refine A_getr lf_X12_165 rfl rfl dX12_changed_51 ?_
      refine A_bipush (v := (8 : Int32)) dX12_changed_54 oB_8 ?_
      refine A_iload_n dX12_changed_56 rfl ?_
      refine A_imul dX12_changed_57 ?_
      refine A_iload dX12_changed_58 rfl ?_
      refine A_iadd dX12_changed_60 ?_
      refine A_iald rfl dX12_changed_61 (fun _ => ?_)
      refine A_iload dX12_changed_62 rfl ?_
      refine A_icmp_eq (tgt := 71) dX12_changed_64 (by decide) (fun _ => ?_) (fun _ => ?_)
      · refine A_iconst (v := (0 : Int32)) dX12_changed_71 oI_0 ?_
        exact (a_X12_changed_b72 (l := l) fu x1 x2 ih _ _ _ _ _ ).sub ⟨rfl, rfl, rfl, trivial⟩
      · refine A_iconst (v := (1 : Int32)) dX12_changed_67 oI_1 ?_
        refine A_goto (tgt := 72) dX12_changed_68 (by decide) ?_
        exact (a_X12_changed_b72 (l := l) fu x1 x2 ih _ _ _ _ _ ).sub ⟨rfl, rfl, rfl, trivial⟩
def F_X12_changed (fu : Nat)  (x1 : Int32) (x2 : Int32)   (M : xM) : Option (Int32 × xM) :=
  (if (P_X12_isCounter x1 x2 (xset M 0 0 (0 : Int32))) = 0 then
  some ((-1 : Int32), (xset M 0 0 (0 : Int32)))
  else
  (if (((16 : Int32) * x1) + x2) < 0 ∨ 96 ≤ (((16 : Int32) * x1) + x2).toNatClampNeg then none else
  F_X12_changed_b37 fu x1 x2 fu (((16 : Int32) * x1) + x2) ((xset M 0 0 (0 : Int32)) 12 (((16 : Int32) * x1) + x2).toNatClampNeg) (0 : Int32) (0 : Int32) (xset M 0 0 (0 : Int32))))
set_option maxRecDepth 100000 in
set_option maxHeartbeats 4000000 in
theorem w_X12_changed {l : Launch} (fu : Nat) (x1 : Int32) (x2 : Int32)     (M : xM)  : AW SM l RX12 cX12_changed 7 (some .int) 2 ki (F_X12_changed fu x1 x2  M) 0 [some (xr 0), some (xi x1), some (xi x2), none, none, none, none] [] M := by
  unfold F_X12_changed
  refine A_aload_n dX12_changed_0 rfl ?_
  refine A_iconst (v := (0 : Int32)) dX12_changed_1 oI_0 ?_
  refine A_puti lf_X12_180 rfl rfl dX12_changed_2 ?_
  refine A_aload_n dX12_changed_5 rfl ?_
  refine A_iload_n dX12_changed_6 rfl ?_
  refine A_iload_n dX12_changed_7 rfl ?_
  refine A_callVp (a_X12_isCounter (l := l) _ _ _ ) lc_X12_507 rfl rfl (by decide) (Nat.le_of_ble_eq_true rfl) rfl dX12_changed_8 ?_
  refine A_if_ne (tgt := 16) dX12_changed_11 (by decide) (fun _ => ?_) (fun _ => ?_)
  · refine A_iconst (v := (-1 : Int32)) dX12_changed_14 oI_m1 ?_
    exact A_iret rfl dX12_changed_15
  · refine A_bipush (v := (16 : Int32)) dX12_changed_16 oB_16 ?_
    refine A_iload_n dX12_changed_18 rfl ?_
    refine A_imul dX12_changed_19 ?_
    refine A_iload_n dX12_changed_20 rfl ?_
    refine A_iadd dX12_changed_21 ?_
    refine A_istore_n dX12_changed_22 (Nat.le_of_ble_eq_true rfl) rfl ?_
    refine A_aload_n dX12_changed_23 rfl ?_
    refine A_getr lf_X12_63 rfl rfl dX12_changed_24 ?_
    refine A_iload_n dX12_changed_27 rfl ?_
    refine A_iald rfl dX12_changed_28 (fun _ => ?_)
    refine A_istore dX12_changed_29 (Nat.le_of_ble_eq_true rfl) rfl ?_
    refine A_iconst (v := (0 : Int32)) dX12_changed_31 oI_0 ?_
    refine A_istore dX12_changed_32 (Nat.le_of_ble_eq_true rfl) rfl ?_
    refine A_iconst (v := (0 : Int32)) dX12_changed_34 oI_0 ?_
    refine A_istore dX12_changed_35 (Nat.le_of_ble_eq_true rfl) rfl ?_
    exact (a_X12_changed_b37 (l := l) fu x1 x2  fu _ _ _ _ _).sub ⟨rfl, rfl, rfl, rfl, rfl, trivial⟩
theorem a_X12_changed {l : Launch} (fu : Nat)  (x1 : Int32) (x2 : Int32) (M : xM)  : AM SM l yX12_changed cX12_changed 7 (some .int) 2 ki [xr 0, xi x1, xi x2] M (F_X12_changed fu x1 x2  M) :=
  AM.of (L0 := [some (xr 0), some (xi x1), some (xi x2), none, none, none, none]) (w_X12_changed (l := l) fu x1 x2  M ) (by decide +kernel) rfl (Nat.le_of_ble_eq_true rfl) ⟨rfl, rfl, rfl, trivial⟩
def F_X12_latest  (x1 : Int32)   (M : xM) : Option (Int32 × xM) :=
  (if x1 < 0 ∨ 96 ≤ x1.toNatClampNeg then none else
  (if (M 44 x1.toNatClampNeg) = 0 then
  (if x1 < 0 ∨ 96 ≤ x1.toNatClampNeg then none else
  some ((M 12 x1.toNatClampNeg), M))
  else
  (if x1 < 0 ∨ 96 ≤ x1.toNatClampNeg then none else
  (if ((((8 : Int32) * x1) + (M 44 x1.toNatClampNeg)) - (1 : Int32)) < 0 ∨ 768 ≤ ((((8 : Int32) * x1) + (M 44 x1.toNatClampNeg)) - (1 : Int32)).toNatClampNeg then none else
  some ((M 45 ((((8 : Int32) * x1) + (M 44 x1.toNatClampNeg)) - (1 : Int32)).toNatClampNeg), M)))))
set_option maxRecDepth 100000 in
set_option maxHeartbeats 4000000 in
theorem w_X12_latest {l : Launch} (x1 : Int32)     (M : xM)  : AW SM l RX12 cX12_latest 2 (some .int) 0 ki (F_X12_latest x1  M) 0 [some (xr 0), some (xi x1)] [] M := by
  unfold F_X12_latest
  refine A_aload_n dX12_latest_0 rfl ?_
  refine A_getr lf_X12_162 rfl rfl dX12_latest_1 ?_
  refine A_iload_n dX12_latest_4 rfl ?_
  refine A_iald rfl dX12_latest_5 (fun _ => ?_)
  refine A_if_ne (tgt := 18) dX12_latest_6 (by decide) (fun _ => ?_) (fun _ => ?_)
  · refine A_aload_n dX12_latest_9 rfl ?_
    refine A_getr lf_X12_63 rfl rfl dX12_latest_10 ?_
    refine A_iload_n dX12_latest_13 rfl ?_
    refine A_iald rfl dX12_latest_14 (fun _ => ?_)
    refine A_goto (tgt := 36) dX12_latest_15 (by decide) ?_
    exact A_iret rfl dX12_latest_36
  · refine A_aload_n dX12_latest_18 rfl ?_
    refine A_getr lf_X12_165 rfl rfl dX12_latest_19 ?_
    refine A_bipush (v := (8 : Int32)) dX12_latest_22 oB_8 ?_
    refine A_iload_n dX12_latest_24 rfl ?_
    refine A_imul dX12_latest_25 ?_
    refine A_aload_n dX12_latest_26 rfl ?_
    refine A_getr lf_X12_162 rfl rfl dX12_latest_27 ?_
    refine A_iload_n dX12_latest_30 rfl ?_
    refine A_iald rfl dX12_latest_31 (fun _ => ?_)
    refine A_iadd dX12_latest_32 ?_
    refine A_iconst (v := (1 : Int32)) dX12_latest_33 oI_1 ?_
    refine A_isub dX12_latest_34 ?_
    refine A_iald rfl dX12_latest_35 (fun _ => ?_)
    exact A_iret rfl dX12_latest_36
theorem a_X12_latest {l : Launch}  (x1 : Int32) (M : xM)  : AM SM l yX12_latest cX12_latest 2 (some .int) 0 ki [xr 0, xi x1] M (F_X12_latest  x1  M) :=
  AM.of (L0 := [some (xr 0), some (xi x1)]) (w_X12_latest (l := l) x1  M ) (by decide +kernel) rfl (Nat.le_of_ble_eq_true rfl) ⟨rfl, rfl, trivial⟩
def F_X12_differing_b44 (fu : Nat)  (x1 : Int32) (k4 : Int32 → Int32 → xM → Option (Int32 × xM)) (x3 : Int32) (s0 : Int32) (s1 : Int32) (M : xM) : Option (Int32 × xM) :=
  k4 (s1 ||| s0) (x3 + (1 : Int32)) M
set_option maxRecDepth 100000 in
set_option maxHeartbeats 4000000 in
theorem a_X12_differing_b44 {l : Launch} (fu : Nat) (x1 : Int32)  {k4 : Int32 → Int32 → xM → Option (Int32 × xM)} (hk4 : ∀ (b0 : Int32) (b1 : Int32) (M : xM), AW SM l RX12 cX12_differing 4 (some .int) 1 ki (k4 b0 b1 M) 4 [some (xr 0), some (xi x1), some (xi b0), some (xi b1)] [] M) (x3 : Int32) (s0 : Int32) (s1 : Int32) (M : xM)  : AW SM l RX12 cX12_differing 4 (some .int) 1 ki (F_X12_differing_b44 fu x1 k4 x3 s0 s1 M) 44 [some (xr 0), some (xi x1), none, some (xi x3)] [xi s0, xi s1] M := by
  unfold F_X12_differing_b44
  refine A_ior dX12_differing_44 ?_
  refine A_istore_n dX12_differing_45 (Nat.le_of_ble_eq_true rfl) rfl ?_
  refine A_iinc dX12_differing_46 rfl oI_1 (Nat.le_of_ble_eq_true rfl) rfl ?_
  refine A_goto (tgt := 4) dX12_differing_49 (by decide) ?_
  exact (hk4 _ _ _).sub ⟨rfl, rfl, rfl, rfl, trivial⟩
def F_X12_differing_b4 (fu : Nat)  (x1 : Int32)  : Nat → Int32 → Int32 → xM → Option (Int32 × xM)
  | 0, _, _, _ => none
  | n + 1, x2, x3, M =>
    (if (M 0 1) ≤ x3 then
    some (x2, M)
    else
    (F_X12_latest (((16 : Int32) * x1) + x3) M).bind fun q1 =>
    (if (((16 : Int32) * x1) + x3) < 0 ∨ 96 ≤ (((16 : Int32) * x1) + x3).toNatClampNeg then none else
    (if q1.1 = (q1.2 12 (((16 : Int32) * x1) + x3).toNatClampNeg) then
    F_X12_differing_b44 fu x1 (F_X12_differing_b4 fu x1 n) x3 (0 : Int32) x2 q1.2
    else
    F_X12_differing_b44 fu x1 (F_X12_differing_b4 fu x1 n) x3 ((1 : Int32) <<< (x3 &&& 31)) x2 q1.2)))
set_option maxRecDepth 100000 in
set_option maxHeartbeats 4000000 in
theorem a_X12_differing_b4 {l : Launch} (fu : Nat) (x1 : Int32)    : ∀ (n : Nat) (x2 : Int32) (x3 : Int32) (M : xM), AW SM l RX12 cX12_differing 4 (some .int) 1 ki (F_X12_differing_b4 fu x1 n x2 x3 M) 4 [some (xr 0), some (xi x1), some (xi x2), some (xi x3)] [] M := by
  intro n
  induction n with
  | zero =>
    intro x2 x3 M
    exact AW.none
  | succ n ih =>
    intro x2 x3 M
    rw [F_X12_differing_b4]
    refine A_iload_n dX12_differing_4 rfl ?_
    refine A_aload_n dX12_differing_5 rfl ?_
    refine A_geti lf_X12_177 rfl rfl dX12_differing_6 ?_
    refine A_icmp_ge (tgt := 52) dX12_differing_9 (by decide) (fun _ => ?_) (fun _ => ?_)
    · refine A_iload_n dX12_differing_52 rfl ?_
      exact A_iret rfl dX12_differing_53
    · refine A_iload_n dX12_differing_12 rfl ?_
      refine A_aload_n dX12_differing_13 rfl ?_
      refine A_bipush (v := (16 : Int32)) dX12_differing_14 oB_16 ?_
      refine A_iload_n dX12_differing_16 rfl ?_
      refine A_imul dX12_differing_17 ?_
      refine A_iload_n dX12_differing_18 rfl ?_
      refine A_iadd dX12_differing_19 ?_
      refine A_callVi (a_X12_latest (l := l) _ _ ) lc_X12_510 rfl rfl (by decide) (Nat.le_of_ble_eq_true rfl) rfl dX12_differing_20 (fun q1 Mq1 hq1 => ?_)
      refine A_aload_n dX12_differing_23 rfl ?_
      refine A_getr lf_X12_63 rfl rfl dX12_differing_24 ?_
      refine A_bipush (v := (16 : Int32)) dX12_differing_27 oB_16 ?_
      refine A_iload_n dX12_differing_29 rfl ?_
      refine A_imul dX12_differing_30 ?_
      refine A_iload_n dX12_differing_31 rfl ?_
      refine A_iadd dX12_differing_32 ?_
      refine A_iald rfl dX12_differing_33 (fun _ => ?_)
      refine A_icmp_eq (tgt := 43) dX12_differing_34 (by decide) (fun _ => ?_) (fun _ => ?_)
      · refine A_iconst (v := (0 : Int32)) dX12_differing_43 oI_0 ?_
        exact (a_X12_differing_b44 (l := l) fu x1 ih _ _ _ _ ).sub ⟨rfl, rfl, rfl, trivial⟩
      · refine A_iconst (v := (1 : Int32)) dX12_differing_37 oI_1 ?_
        refine A_iload_n dX12_differing_38 rfl ?_
        refine A_ishl dX12_differing_39 ?_
        refine A_goto (tgt := 44) dX12_differing_40 (by decide) ?_
        exact (a_X12_differing_b44 (l := l) fu x1 ih _ _ _ _ ).sub ⟨rfl, rfl, rfl, trivial⟩
def F_X12_differing (fu : Nat)  (x1 : Int32)   (M : xM) : Option (Int32 × xM) :=
  F_X12_differing_b4 fu x1 fu (0 : Int32) (0 : Int32) M
set_option maxRecDepth 100000 in
set_option maxHeartbeats 4000000 in
theorem w_X12_differing {l : Launch} (fu : Nat) (x1 : Int32)     (M : xM)  : AW SM l RX12 cX12_differing 4 (some .int) 1 ki (F_X12_differing fu x1  M) 0 [some (xr 0), some (xi x1), none, none] [] M := by
  unfold F_X12_differing
  refine A_iconst (v := (0 : Int32)) dX12_differing_0 oI_0 ?_
  refine A_istore_n dX12_differing_1 (Nat.le_of_ble_eq_true rfl) rfl ?_
  refine A_iconst (v := (0 : Int32)) dX12_differing_2 oI_0 ?_
  refine A_istore_n dX12_differing_3 (Nat.le_of_ble_eq_true rfl) rfl ?_
  exact (a_X12_differing_b4 (l := l) fu x1  fu _ _ _).sub ⟨rfl, rfl, rfl, rfl, trivial⟩
theorem a_X12_differing {l : Launch} (fu : Nat)  (x1 : Int32) (M : xM)  : AM SM l yX12_differing cX12_differing 4 (some .int) 1 ki [xr 0, xi x1] M (F_X12_differing fu x1  M) :=
  AM.of (L0 := [some (xr 0), some (xi x1), none, none]) (w_X12_differing (l := l) fu x1  M ) (by decide +kernel) rfl (Nat.le_of_ble_eq_true rfl) ⟨rfl, rfl, trivial⟩
def F_X12_differs (fu : Nat)  (x1 : Int32)   (M : xM) : Option (Int32 × xM) :=
  (if (P_X12_isMachine x1 (xset M 0 0 (0 : Int32))) = 0 then
  some ((-1 : Int32), (xset M 0 0 (0 : Int32)))
  else
  (F_X12_differing fu x1 (xset M 0 0 (0 : Int32))).bind fun q1 =>
  some (q1.1, q1.2))
set_option maxRecDepth 100000 in
set_option maxHeartbeats 4000000 in
theorem w_X12_differs {l : Launch} (fu : Nat) (x1 : Int32)     (M : xM)  : AW SM l RX12 cX12_differs 2 (some .int) 2 ki (F_X12_differs fu x1  M) 0 [some (xr 0), some (xi x1)] [] M := by
  unfold F_X12_differs
  refine A_aload_n dX12_differs_0 rfl ?_
  refine A_iconst (v := (0 : Int32)) dX12_differs_1 oI_0 ?_
  refine A_puti lf_X12_180 rfl rfl dX12_differs_2 ?_
  refine A_aload_n dX12_differs_5 rfl ?_
  refine A_iload_n dX12_differs_6 rfl ?_
  refine A_callVp (a_X12_isMachine (l := l) _ _ ) lc_X12_337 rfl rfl (by decide) (Nat.le_of_ble_eq_true rfl) rfl dX12_differs_7 ?_
  refine A_if_eq (tgt := 21) dX12_differs_10 (by decide) (fun _ => ?_) (fun _ => ?_)
  · refine A_iconst (v := (-1 : Int32)) dX12_differs_21 oI_m1 ?_
    exact A_iret rfl dX12_differs_22
  · refine A_aload_n dX12_differs_13 rfl ?_
    refine A_iload_n dX12_differs_14 rfl ?_
    refine A_callVi (a_X12_differing (l := l) fu _ _ ) lc_X12_513 rfl rfl (by decide) (Nat.le_of_ble_eq_true rfl) rfl dX12_differs_15 (fun q1 Mq1 hq1 => ?_)
    refine A_goto (tgt := 22) dX12_differs_18 (by decide) ?_
    exact A_iret rfl dX12_differs_22
theorem a_X12_differs {l : Launch} (fu : Nat)  (x1 : Int32) (M : xM)  : AM SM l yX12_differs cX12_differs 2 (some .int) 2 ki [xr 0, xi x1] M (F_X12_differs fu x1  M) :=
  AM.of (L0 := [some (xr 0), some (xi x1)]) (w_X12_differs (l := l) fu x1  M ) (by decide +kernel) rfl (Nat.le_of_ble_eq_true rfl) ⟨rfl, rfl, trivial⟩
def F_X12_take_b23 (fu : Nat)  (x1 : Int32)  : Nat → Int32 → Int32 → xM → Option (Int32 × xM)
  | 0, _, _, _ => none
  | n + 1, x2, x3, M =>
    (if (M 0 1) ≤ x3 then
    some ((P_J6_bitCount_0f7a4 x2 M), M)
    else
    (F_X12_latest (((16 : Int32) * x1) + x3) M).bind fun q1 =>
    (if (((16 : Int32) * x1) + x3) < 0 ∨ 96 ≤ (((16 : Int32) * x1) + x3).toNatClampNeg then none else
    F_X12_take_b23 fu x1 n x2 (x3 + (1 : Int32)) (xset q1.2 12 (((16 : Int32) * x1) + x3).toNatClampNeg q1.1)))
set_option maxRecDepth 100000 in
set_option maxHeartbeats 4000000 in
theorem a_X12_take_b23 {l : Launch} (fu : Nat) (x1 : Int32)    : ∀ (n : Nat) (x2 : Int32) (x3 : Int32) (M : xM), AW SM l RX12 cX12_take 4 (some .int) 2 ki (F_X12_take_b23 fu x1 n x2 x3 M) 23 [some (xr 0), some (xi x1), some (xi x2), some (xi x3)] [] M := by
  intro n
  induction n with
  | zero =>
    intro x2 x3 M
    exact AW.none
  | succ n ih =>
    intro x2 x3 M
    rw [F_X12_take_b23]
    refine A_iload_n dX12_take_23 rfl ?_
    refine A_aload_n dX12_take_24 rfl ?_
    refine A_geti lf_X12_177 rfl rfl dX12_take_25 ?_
    refine A_icmp_ge (tgt := 58) dX12_take_28 (by decide) (fun _ => ?_) (fun _ => ?_)
    · refine A_iload_n dX12_take_58 rfl ?_
      refine A_callSp (a_J6_bitCount_0f7a4 (S := SM) (l := l) _ _ ) lc_X12_183 rfl (by decide) (Nat.le_of_ble_eq_true rfl) rfl dX12_take_59 ?_
      exact A_iret rfl dX12_take_62
    · refine A_aload_n dX12_take_31 rfl ?_
      refine A_getr lf_X12_63 rfl rfl dX12_take_32 ?_
      refine A_bipush (v := (16 : Int32)) dX12_take_35 oB_16 ?_
      refine A_iload_n dX12_take_37 rfl ?_
      refine A_imul dX12_take_38 ?_
      refine A_iload_n dX12_take_39 rfl ?_
      refine A_iadd dX12_take_40 ?_
      refine A_aload_n dX12_take_41 rfl ?_
      refine A_bipush (v := (16 : Int32)) dX12_take_42 oB_16 ?_
      refine A_iload_n dX12_take_44 rfl ?_
      refine A_imul dX12_take_45 ?_
      refine A_iload_n dX12_take_46 rfl ?_
      refine A_iadd dX12_take_47 ?_
      refine A_callVi (a_X12_latest (l := l) _ _ ) lc_X12_510 rfl rfl (by decide) (Nat.le_of_ble_eq_true rfl) rfl dX12_take_48 (fun q1 Mq1 hq1 => ?_)
      refine A_iast rfl dX12_take_51 (fun _ => ?_)
      refine A_iinc dX12_take_52 rfl oI_1 (Nat.le_of_ble_eq_true rfl) rfl ?_
      refine A_goto (tgt := 23) dX12_take_55 (by decide) ?_
      exact (ih _ _ _).sub ⟨rfl, rfl, rfl, rfl, trivial⟩
def F_X12_take (fu : Nat)  (x1 : Int32)   (M : xM) : Option (Int32 × xM) :=
  (if (P_X12_isMachine x1 (xset M 0 0 (0 : Int32))) = 0 then
  some ((-1 : Int32), (xset M 0 0 (0 : Int32)))
  else
  (F_X12_differing fu x1 (xset M 0 0 (0 : Int32))).bind fun q1 =>
  F_X12_take_b23 fu x1 fu q1.1 (0 : Int32) q1.2)
set_option maxRecDepth 100000 in
set_option maxHeartbeats 4000000 in
theorem w_X12_take {l : Launch} (fu : Nat) (x1 : Int32)     (M : xM)  : AW SM l RX12 cX12_take 4 (some .int) 2 ki (F_X12_take fu x1  M) 0 [some (xr 0), some (xi x1), none, none] [] M := by
  unfold F_X12_take
  refine A_aload_n dX12_take_0 rfl ?_
  refine A_iconst (v := (0 : Int32)) dX12_take_1 oI_0 ?_
  refine A_puti lf_X12_180 rfl rfl dX12_take_2 ?_
  refine A_aload_n dX12_take_5 rfl ?_
  refine A_iload_n dX12_take_6 rfl ?_
  refine A_callVp (a_X12_isMachine (l := l) _ _ ) lc_X12_337 rfl rfl (by decide) (Nat.le_of_ble_eq_true rfl) rfl dX12_take_7 ?_
  refine A_if_ne (tgt := 15) dX12_take_10 (by decide) (fun _ => ?_) (fun _ => ?_)
  · refine A_iconst (v := (-1 : Int32)) dX12_take_13 oI_m1 ?_
    exact A_iret rfl dX12_take_14
  · refine A_aload_n dX12_take_15 rfl ?_
    refine A_iload_n dX12_take_16 rfl ?_
    refine A_callVi (a_X12_differing (l := l) fu _ _ ) lc_X12_513 rfl rfl (by decide) (Nat.le_of_ble_eq_true rfl) rfl dX12_take_17 (fun q1 Mq1 hq1 => ?_)
    refine A_istore_n dX12_take_20 (Nat.le_of_ble_eq_true rfl) rfl ?_
    refine A_iconst (v := (0 : Int32)) dX12_take_21 oI_0 ?_
    refine A_istore_n dX12_take_22 (Nat.le_of_ble_eq_true rfl) rfl ?_
    exact (a_X12_take_b23 (l := l) fu x1  fu _ _ _).sub ⟨rfl, rfl, rfl, rfl, trivial⟩
theorem a_X12_take {l : Launch} (fu : Nat)  (x1 : Int32) (M : xM)  : AM SM l yX12_take cX12_take 4 (some .int) 2 ki [xr 0, xi x1] M (F_X12_take fu x1  M) :=
  AM.of (L0 := [some (xr 0), some (xi x1), none, none]) (w_X12_take (l := l) fu x1  M ) (by decide +kernel) rfl (Nat.le_of_ble_eq_true rfl) ⟨rfl, rfl, trivial⟩
def F_X12_count  (x1 : Int32)   (M : xM) : Option (Int32 × xM) :=
  (if x1 = (0 : Int32) then
  some (((xset M 0 0 (0 : Int32)) 0 7), (xset M 0 0 (0 : Int32)))
  else
  (if x1 = (1 : Int32) then
  some (((xset M 0 0 (0 : Int32)) 0 8), (xset M 0 0 (0 : Int32)))
  else
  (if x1 = (2 : Int32) then
  some (((xset M 0 0 (0 : Int32)) 0 16), (xset M 0 0 (0 : Int32)))
  else
  (if x1 = (3 : Int32) then
  some (((xset M 0 0 (0 : Int32)) 0 32), (xset M 0 0 (0 : Int32)))
  else
  (if x1 = (4 : Int32) then
  some (((xset M 0 0 (0 : Int32)) 0 49), (xset M 0 0 (0 : Int32)))
  else
  (if x1 = (5 : Int32) then
  some (((xset M 0 0 (0 : Int32)) 0 15), (xset M 0 0 (0 : Int32)))
  else
  (if x1 = (6 : Int32) then
  some (((xset M 0 0 (0 : Int32)) 0 17), (xset M 0 0 (0 : Int32)))
  else
  (if x1 = (7 : Int32) then
  some (((xset M 0 0 (0 : Int32)) 0 1), (xset M 0 0 (0 : Int32)))
  else
  (if x1 = (8 : Int32) then
  some (((xset M 0 0 (0 : Int32)) 0 58), (xset M 0 0 (0 : Int32)))
  else
  some ((-100000 : Int32), (xset M 0 0 (0 : Int32))))))))))))
set_option maxRecDepth 100000 in
set_option maxHeartbeats 4000000 in
theorem w_X12_count {l : Launch} (x1 : Int32)     (M : xM)  : AW SM l RX12 cX12_count 2 (some .int) 0 ki (F_X12_count x1  M) 0 [some (xr 0), some (xi x1)] [] M := by
  unfold F_X12_count
  refine A_aload_n dX12_count_0 rfl ?_
  refine A_iconst (v := (0 : Int32)) dX12_count_1 oI_0 ?_
  refine A_puti lf_X12_180 rfl rfl dX12_count_2 ?_
  refine A_iload_n dX12_count_5 rfl ?_
  refine AW.ite (fun e => ?_) (fun e0 => ?_)
  · refine A_tableIn (off := 50) (tgt := 56) dX12_count_6 (by rw [e]; decide) (by rw [e]; decide) (by rw [e]; rfl) (by decide) ?_
    refine A_aload_n dX12_count_56 rfl ?_
    refine A_geti lf_X12_189 rfl rfl dX12_count_57 ?_
    exact A_iret rfl dX12_count_60
  · refine AW.ite (fun e => ?_) (fun e1 => ?_)
    · refine A_tableIn (off := 55) (tgt := 61) dX12_count_6 (by rw [e]; decide) (by rw [e]; decide) (by rw [e]; rfl) (by decide) ?_
      refine A_aload_n dX12_count_61 rfl ?_
      refine A_geti lf_X12_204 rfl rfl dX12_count_62 ?_
      exact A_iret rfl dX12_count_65
    · refine AW.ite (fun e => ?_) (fun e2 => ?_)
      · refine A_tableIn (off := 60) (tgt := 66) dX12_count_6 (by rw [e]; decide) (by rw [e]; decide) (by rw [e]; rfl) (by decide) ?_
        refine A_aload_n dX12_count_66 rfl ?_
        refine A_geti lf_X12_328 rfl rfl dX12_count_67 ?_
        exact A_iret rfl dX12_count_70
      · refine AW.ite (fun e => ?_) (fun e3 => ?_)
        · refine A_tableIn (off := 65) (tgt := 71) dX12_count_6 (by rw [e]; decide) (by rw [e]; decide) (by rw [e]; rfl) (by decide) ?_
          refine A_aload_n dX12_count_71 rfl ?_
          refine A_geti lf_X12_331 rfl rfl dX12_count_72 ?_
          exact A_iret rfl dX12_count_75
        · refine AW.ite (fun e => ?_) (fun e4 => ?_)
          · refine A_tableIn (off := 70) (tgt := 76) dX12_count_6 (by rw [e]; decide) (by rw [e]; decide) (by rw [e]; rfl) (by decide) ?_
            refine A_aload_n dX12_count_76 rfl ?_
            refine A_geti lf_X12_420 rfl rfl dX12_count_77 ?_
            exact A_iret rfl dX12_count_80
          · refine AW.ite (fun e => ?_) (fun e5 => ?_)
            · refine A_tableIn (off := 75) (tgt := 81) dX12_count_6 (by rw [e]; decide) (by rw [e]; decide) (by rw [e]; rfl) (by decide) ?_
              refine A_aload_n dX12_count_81 rfl ?_
              refine A_geti lf_X12_229 rfl rfl dX12_count_82 ?_
              exact A_iret rfl dX12_count_85
            · refine AW.ite (fun e => ?_) (fun e6 => ?_)
              · refine A_tableIn (off := 80) (tgt := 86) dX12_count_6 (by rw [e]; decide) (by rw [e]; decide) (by rw [e]; rfl) (by decide) ?_
                refine A_aload_n dX12_count_86 rfl ?_
                refine A_geti lf_X12_45 rfl rfl dX12_count_87 ?_
                exact A_iret rfl dX12_count_90
              · refine AW.ite (fun e => ?_) (fun e7 => ?_)
                · refine A_tableIn (off := 85) (tgt := 91) dX12_count_6 (by rw [e]; decide) (by rw [e]; decide) (by rw [e]; rfl) (by decide) ?_
                  refine A_aload_n dX12_count_91 rfl ?_
                  refine A_geti lf_X12_177 rfl rfl dX12_count_92 ?_
                  exact A_iret rfl dX12_count_95
                · refine AW.ite (fun e => ?_) (fun e8 => ?_)
                  · refine A_tableIn (off := 90) (tgt := 96) dX12_count_6 (by rw [e]; decide) (by rw [e]; decide) (by rw [e]; rfl) (by decide) ?_
                    refine A_aload_n dX12_count_96 rfl ?_
                    refine A_geti lf_X12_452 rfl rfl dX12_count_97 ?_
                    exact A_iret rfl dX12_count_100
                  · refine A_tableOut (tgt := 101) dX12_count_6 (by have z0 := xne (k := 0) (by decide) e0; have z1 := xne (k := 1) (by decide) e1; have z2 := xne (k := 2) (by decide) e2; have z3 := xne (k := 3) (by decide) e3; have z4 := xne (k := 4) (by decide) e4; have z5 := xne (k := 5) (by decide) e5; have z6 := xne (k := 6) (by decide) e6; have z7 := xne (k := 7) (by decide) e7; have z8 := xne (k := 8) (by decide) e8; omega) (by decide) ?_
                    refine A_ldcw (v := (-100000 : Int32)) dX12_count_101 lk_X12_391 ?_
                    exact A_iret rfl dX12_count_104
theorem a_X12_count {l : Launch}  (x1 : Int32) (M : xM)  : AM SM l yX12_count cX12_count 2 (some .int) 0 ki [xr 0, xi x1] M (F_X12_count  x1  M) :=
  AM.of (L0 := [some (xr 0), some (xi x1)]) (w_X12_count (l := l) x1  M ) (by decide +kernel) rfl (Nat.le_of_ble_eq_true rfl) ⟨rfl, rfl, trivial⟩
