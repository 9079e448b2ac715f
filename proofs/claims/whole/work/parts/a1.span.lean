/-! span, total -/
section SPAN
variable {R C : xM} {m lv on mn fu : Nat}
/-- what lies ready of one LEVER -/
theorem RD.lo {S : xM} {o l lo hi : Nat} (h : RD fu S o l lo hi) : S 22 l = nI lo := by
  obtain ⟨_, _, _, _, h, _⟩ := h
  exact h
theorem sp_loop (hfu : 70000 ≤ fu) (hm : m < mn) {l o : Nat} (hl : l < lv) (ho : o < on) (hr : R 3 l = nI o) (x3 : Int32) : ∀ k i n1 n2 (x4 x5 : Int32) (M S : xM), i + k = 2 ^ nF R m → k < n1 → k < n2 → FW fu lv on mn M R → xfr wrF R S → ∃ v M' S', F_X8_pullsAt_b6 fu (nI m) (nI l) x3 n1 (if x3 = 0 then x4 else x5) (nI i) M = some (v, M') ∧ F_X12_spanOf_b9 fu (nI m) (nI l) x3 n2 x4 x5 (nI i) S = some (v, S') ∧ FW fu lv on mn M' R ∧ xfr wrF R S' := by
  intro k
  induction k with
  | zero =>
    intro i n1 n2 x4 x5 M S hi h1 h2 hW hS
    obtain ⟨n1, rfl⟩ : ∃ z, n1 = z + 1 := ⟨n1 - 1, by omega⟩
    obtain ⟨n2, rfl⟩ : ∃ z, n2 = z + 1 := ⟨n2 - 1, by omega⟩
    have hp := p2F hW hm
    refine ⟨if x3 = 0 then x4 else x5, M, S, ?_, ?_, hW, hS⟩
    · rw [F_X8_pullsAt_b6, setsC hW hm, if_pos (nI_le (by omega) (by omega))]
    · rw [F_X12_spanOf_b9, if_neg (idx_no (hW.m6 hm) (by decide)), nI_clamp (by have := hW.m6 hm; omega), setsR hW hS hm, if_pos (nI_le (by omega) (by omega))]
      by_cases z : x3 = 0
      · rw [if_pos z, if_pos z]
      · rw [if_neg z, if_neg z]
  | succ k ih =>
    intro i n1 n2 x4 x5 M S hi h1 h2 hW hS
    obtain ⟨n1, rfl⟩ : ∃ z, n1 = z + 1 := ⟨n1 - 1, by omega⟩
    obtain ⟨n2, rfl⟩ : ∃ z, n2 = z + 1 := ⟨n2 - 1, by omega⟩
    have hp := p2F hW hm
    have hl16 : l < 16 := by have := hW.b16; omega
    obtain ⟨M1, e1, hW1, _, c1⟩ := cC hfu hW hm (show i < 2 ^ nF R m by omega)
    obtain ⟨S1, e2, hS1, c2⟩ := cR hfu hW hS hm i
    rw [F_X8_pullsAt_b6, setsC hW hm, if_neg (show ¬ nI (2 ^ nF R m) ≤ nI i from nI_ge (by omega) (by omega)), e1, F_X12_spanOf_b9, if_neg (idx_no (hW.m6 hm) (by decide)), nI_clamp (show m < 2 ^ 31 by have := hW.m6 hm; omega), setsR hW hS hm, if_neg (show ¬ nI (2 ^ nF R m) ≤ nI i from nI_ge (by omega) (by omega)), e2]
    simp only [Option.bind_some, F_X8_pullsAt_b66, F_X8_pullsAt_b86, F_X12_spanOf_b96, F_X12_spanOf_b107, add1]
    have I := fun x4 x5 => ih (i + 1) n1 n2 x4 x5 M1 S1 (by omega) (by omega) (by omega) hW1 hS1
    cases hc : cnt fu R lv on m i with
    | false =>
      rw [if_pos (show b2i false = 0 from rfl), if_pos (show b2i false = 0 from rfl)]
      exact I x4 x5
    | true =>
      obtain ⟨d1, d2⟩ := c1 hc l o hl ho hr
      obtain ⟨bo, sm, r1, r2, r3, r4⟩ := c2 hc l o hl ho hr
      rw [if_neg (show ¬ b2i true = 0 by decide), if_neg (show ¬ b2i true = 0 by decide), if_neg (idx_no hl16 (by decide)), nI_clamp (show l < 2 ^ 31 by omega), hS1 3 l rfl, hr, r1]
      simp only [Option.bind_some]
      rw [r2]
      simp only [Option.bind_some]
      rw [if_neg (idx_no2 hl16 (by decide)), r3, r4]
      simp only [Option.bind_some]
      rw [if_neg (idx_no2 hl16 (by decide)), if_neg (idx_no2 hl16 (by decide)), r3, P_X2_low, P_X2_high, at_ok hl16 (by decide), at_ok hl16 (by decide), d1, d2]
      by_cases z : x3 = 0
      · rw [if_pos z, if_pos z]
        have J := fun x4 x5 => I x4 x5
        simp only [if_pos z] at J
        by_cases z2 : x4 = -1
        · rw [if_pos z2, if_pos z2]
          exact J _ _
        · rw [if_neg z2, if_neg z2]
          exact J _ _
      · rw [if_neg z, if_neg z]
        have J := fun x4 x5 => I x4 x5
        simp only [if_neg z] at J
        by_cases z2 : x4 = -1
        · rw [if_pos z2]
          exact J _ _
        · rw [if_neg z2]
          exact J _ _
theorem sp_ok {S : xM} (hfu : 70000 ≤ fu) (hW : FW fu lv on mn C R) (hS : xfr wrF R S) (hm : m < mn) {l o : Nat} (hl : l < lv) (ho : o < on) (hr : R 3 l = nI o) (x3 : Int32) : ∃ v M' S', F_X8_pullsAt fu (nI m) (nI l) x3 C = some (v, M') ∧ F_X12_spanOf fu (nI m) (nI l) x3 S = some (v, S') ∧ FW fu lv on mn M' R ∧ xfr wrF R S' := by
  have hp := p2F hW hm
  obtain ⟨v, M', S', a1, a2, a3, a4⟩ := sp_loop hfu hm hl ho hr x3 (2 ^ nF R m) 0 fu fu (-1) (-1) C S (by omega) (by omega) (by omega) hW hS
  refine ⟨v, M', S', ?_, a2, a3, a4⟩
  rw [← a1]
  unfold F_X8_pullsAt
  congr 1
  by_cases z : x3 = 0
  · rw [if_pos z]
  · rw [if_neg z]
theorem FW.of (hW : FW fu lv on mn C R) (hfu : 70000 ≤ fu) (x : Int32) : (∃ l o, l < lv ∧ o < on ∧ x = nI l ∧ R 3 l = nI o ∧ F_X0_officeOf fu x C = some (nI o, C) ∧ F_X12_isOfOffice x (xset R 0 0 0) = some (1, xset R 0 0 0)) ∨ (F_X0_officeOf fu x C = some (-1, C) ∧ F_X12_isOfOffice x (xset R 0 0 0) = some (0, xset R 0 0 0)) := by
  obtain ⟨h1, h2, h3, h4, h5, h6, h7, e1, e2, e3, e4, e5, e6, b1, b2, b3⟩ := hW
  exact of_ok (R := xset R 0 0 0) hfu ⟨b2, e5, e2, h2⟩ b1 e4 e1 h3 x
theorem op_span (hfu : 70000 ≤ fu) (x1 x2 x3 : Int32) (hW : FW fu lv on mn C R) : ∃ v C' R', F_X11_span fu x1 x2 x3 C = some (v, C') ∧ F_X12_span fu x1 x2 x3 R = some (v, R') := by
  unfold F_X11_span F_X12_span
  rw [hW.meq]
  by_cases h1 : P_X5_isMachine x1 C = 0
  · rw [if_pos h1, if_pos h1]
    exact ⟨-1, _, _, rfl, rfl⟩
  obtain ⟨m, hm, rfl⟩ := Classical.not_not.mp fun z => h1 (hW.mc.mpr z)
  rw [if_neg h1, if_neg h1]
  rcases hW.of hfu x2 with ⟨l, o, hl, ho, rfl, hr, f1, f2⟩ | ⟨f1, f2⟩
  · rw [f1, f2]
    simp only [Option.bind_some]
    rw [if_neg (nIm1 (by have := hW.b16; omega)), if_neg (show ¬ ((1 : Int32) = 0) by decide), isIn_eq (N := C)]
    by_cases h2 : P_X1_within x3 0 1 C = 0
    · rw [if_pos h2, if_pos h2]
      exact ⟨-1, _, _, rfl, rfl⟩
    · obtain ⟨v, M', S', a1, a2, _⟩ := sp_ok hfu hW (x00F R) hm hl ho hr x3
      rw [if_neg h2, if_neg h2, a1, a2]
      exact ⟨_, _, _, rfl, rfl⟩
  · rw [f1, f2]
    exact ⟨-1, _, _, rfl, rfl⟩
theorem to_loop (hfu : 70000 ≤ fu) {l o : Nat} (hl : l < lv) (ho : o < on) (hr : R 3 l = nI o) (x3 : Int32) : ∀ k i n1 n2 (x4 : Int32) (M S : xM), i + k = mn → k < n1 → k < n2 → FW fu lv on mn M R → xfr wrF R S → ∃ v M' S', F_X8_pullsOverAll_b5 fu (nI l) x3 n1 x4 (nI i) M = some (v, M') ∧ F_X12_total_b29 fu (nI l) x3 n2 x4 (nI i) S = some (v, S') := by
  intro k
  induction k with
  | zero =>
    intro i n1 n2 x4 M S hi h1 h2 hW hS
    obtain ⟨n1, rfl⟩ : ∃ z, n1 = z + 1 := ⟨n1 - 1, by omega⟩
    obtain ⟨n2, rfl⟩ : ∃ z, n2 = z + 1 := ⟨n2 - 1, by omega⟩
    obtain ⟨g1, g2, g3, g4, g5, g6, g7, e1, e2, e3, e4, e5, e6, b1, b2, b3⟩ := hW
    rw [F_X8_pullsOverAll_b5, F_X12_total_b29, e6, hS 0 32 rfl, e3, if_pos (nI_le (by omega) (by omega)), if_pos (nI_le (by omega) (by omega))]
    exact ⟨_, _, _, rfl, rfl⟩
  | succ k ih =>
    intro i n1 n2 x4 M S hi h1 h2 hW hS
    obtain ⟨n1, rfl⟩ : ∃ z, n1 = z + 1 := ⟨n1 - 1, by omega⟩
    obtain ⟨n2, rfl⟩ : ∃ z, n2 = z + 1 := ⟨n2 - 1, by omega⟩
    have hW0 := hW
    obtain ⟨g1, g2, g3, g4, g5, g6, g7, e1, e2, e3, e4, e5, e6, b1, b2, b3⟩ := hW
    obtain ⟨v, M', S', a1, a2, a3, a4⟩ := sp_ok hfu hW0 hS (show i < mn by omega) hl ho hr x3
    rw [F_X8_pullsOverAll_b5, F_X12_total_b29, e6, hS 0 32 rfl, e3, if_neg (show ¬ nI mn ≤ nI i from nI_ge (by omega) (by omega)), if_neg (show ¬ nI mn ≤ nI i from nI_ge (by omega) (by omega)), a1, a2]
    simp only [Option.bind_some, add1]
    by_cases z : v = -1
    · rw [if_pos z, if_pos z]
      exact ⟨_, _, _, rfl, rfl⟩
    · rw [if_neg z, if_neg z]
      exact ih (i + 1) n1 n2 _ M' S' (by omega) (by omega) (by omega) a3 a4
theorem op_total (hfu : 70000 ≤ fu) (x1 x2 : Int32) (hW : FW fu lv on mn C R) : ∃ v C' R', F_X11_total fu x1 x2 C = some (v, C') ∧ F_X12_total fu x1 x2 R = some (v, R') := by
  unfold F_X11_total F_X12_total
  rcases hW.of hfu x1 with ⟨l, o, hl, ho, rfl, hr, f1, f2⟩ | ⟨f1, f2⟩
  · rw [f1, f2]
    simp only [Option.bind_some]
    rw [if_neg (nIm1 (by have := hW.b16; omega)), if_neg (show ¬ ((1 : Int32) = 0) by decide), isIn_eq (N := C)]
    by_cases h2 : P_X1_within x2 0 1 C = 0
    · rw [if_pos h2, if_pos h2]
      exact ⟨-1, _, _, rfl, rfl⟩
    · obtain ⟨v, M', S', a1, a2⟩ := to_loop (R := R) hfu hl ho hr x2 mn 0 fu fu 0 C (xset R 0 0 0) (by omega) (by have := hW.b16; omega) (by have := hW.b16; omega) hW (x00F R)
      rw [if_neg h2, if_neg h2, show F_X8_pullsOverAll fu (nI l) x2 C = _ from a1]
      exact ⟨v, M', S', rfl, a2⟩
  · rw [f1, f2]
    exact ⟨-1, _, _, rfl, rfl⟩
end SPAN
