/-! Of which OFFICE a LEVER is; how NAMES stand -/
section SHUF
variable {C R : xM}
theorem oo_in {lv on : Nat} (hl : lv ≤ 16) (hO : OV C R on) (hF : ∀ l, l < 16 → (R 3 l = -1 ∧ tb (C 1 7) l = false ∧ ∀ o, o < on → tb (R 1 o) l = false) ∨ ∃ o, o < on ∧ R 3 l = nI o ∧ tb (C 1 7) l = true ∧ ∀ p, p < on → tb (R 1 p) l = decide (p = o)) {l : Nat} (hll : l < lv) (fu : Nat) : ∀ (k i n : Nat), i + k = on → k < n → (∀ o, o < i → tb (R 1 o) l = false) → F_X0_officeOf_b2 fu (nI l) n (nI i) C = some (R 3 l, C) := by
  obtain ⟨h1, h2, h3, q1, q2, q3⟩ := hO
  intro k
  induction k with
  | zero =>
    intro i n hi hn h
    obtain ⟨n, rfl⟩ : ∃ z, n = z + 1 := ⟨n - 1, by omega⟩
    obtain rfl : i = on := by omega
    rw [F_X0_officeOf_b2, h2, if_pos (nI_le (by omega) (by omega))]
    rcases hF l (by omega) with ⟨e, _⟩ | ⟨o, ho, e, _, e4⟩
    · rw [e]
    · have := h o ho
      rw [e4 o ho, decide_eq_true rfl] at this
      exact absurd this (by decide)
  | succ k ih =>
    intro i n hi hn h
    obtain ⟨n, rfl⟩ : ∃ z, n = z + 1 := ⟨n - 1, by omega⟩
    rw [F_X0_officeOf_b2, h2, if_neg (nI_ge (by omega) (by omega)), P_X0_leversOf, at_ok (show i < 6 by omega) (by decide), (q1 i (by omega)).1, has_tb (by omega), add1]
    cases ht : tb (R 1 i) l with
    | false =>
      rw [if_neg (show ¬ (false = true) by decide), if_pos (show (0 : Int32) = 0 from rfl)]
      refine ih (i + 1) n (by omega) (by omega) fun o ho => ?_
      by_cases e : o = i
      · subst e
        exact ht
      · exact h o (by omega)
    | true =>
      rw [if_pos (show true = true from rfl), if_neg (show ¬ ((1 : Int32) = 0) by decide)]
      rcases hF l (by omega) with ⟨_, _, e⟩ | ⟨o, ho, e, _, e4⟩
      · rw [e i (by omega)] at ht
        exact absurd ht (by decide)
      · rw [e4 i (by omega)] at ht
        rw [e, of_decide_eq_true ht]
theorem has_out {lv a : Nat} (hl : lv ≤ 16) (ha : a < 2 ^ lv) {x : Int32} (hx : ¬ inN x lv) {M : xM} : P_X1_has (nI a) x M = 0 := by
  by_cases h0 : x < 0
  · unfold P_X1_has
    rw [if_pos h0]
  · obtain ⟨j, hj, rfl⟩ := nI_of h0
    by_cases h1 : j ≤ 30
    · rw [has_tb h1, tb_hi ha (by
        apply Classical.byContradiction
        intro z
        exact hx ⟨j, by omega, rfl⟩) (by omega), if_neg (by decide)]
    · unfold P_X1_has
      rw [if_neg h0, if_pos (show (30 : Int32) < nI j from (nI_ltI (a := 30) (by decide) hj).mpr (by omega))]
theorem oo_out {lv on : Nat} (hl : lv ≤ 16) (hO : OV C R on) (h7 : ∀ o, o < on → ∃ a : Nat, a < 2 ^ lv ∧ R 1 o = nI a) {x : Int32} (hx : ¬ inN x lv) (fu : Nat) : ∀ (k i n : Nat), i + k = on → k < n → F_X0_officeOf_b2 fu x n (nI i) C = some (-1, C) := by
  obtain ⟨h1, h2, h3, q1, q2, q3⟩ := hO
  intro k
  induction k with
  | zero =>
    intro i n hi hn
    obtain ⟨n, rfl⟩ : ∃ z, n = z + 1 := ⟨n - 1, by omega⟩
    rw [F_X0_officeOf_b2, h2, if_pos (nI_le (by omega) (by omega))]
  | succ k ih =>
    intro i n hi hn
    obtain ⟨n, rfl⟩ : ∃ z, n = z + 1 := ⟨n - 1, by omega⟩
    obtain ⟨a, ha, ea⟩ := h7 i (by omega)
    rw [F_X0_officeOf_b2, h2, if_neg (nI_ge (by omega) (by omega)), P_X0_leversOf, at_ok (show i < 6 by omega) (by decide), (q1 i (by omega)).1, ea, has_out hl ha hx, if_pos rfl, add1]
    exact ih (i + 1) n (by omega) (by omega)
/-- of which OFFICE -/
theorem oo_ok {fu lv on : Nat} (hfu : 70000 ≤ fu) (hO : OV C R on) (hl : lv ≤ 16) (r1 : R 0 1 = nI lv) (hF : RF C R) (x : Int32) : (∃ l, l < lv ∧ x = nI l ∧ F_X0_officeOf fu x C = some (R 3 l, C) ∧ (R 3 l = -1 ∨ ∃ o, o < on ∧ R 3 l = nI o)) ∨ (¬ inN x lv ∧ F_X0_officeOf fu x C = some (-1, C)) := by
  obtain ⟨lv', on', g1, g2, g3, g4, g5, g6, g7⟩ := hF
  obtain rfl : lv' = lv := (nI_eq (by omega) (by omega)).mp (g3.symm.trans r1)
  obtain rfl : on' = on := (nI_eq (by omega) (by have := hO.1; omega)).mp (g4.symm.trans hO.2.2.1)
  unfold F_X0_officeOf
  by_cases hx : inN x lv'
  · obtain ⟨l, hll, rfl⟩ := hx
    refine Or.inl ⟨l, hll, rfl, oo_in hl hO g5 hll fu on' 0 fu (by omega) (by omega) (fun o ho => absurd ho (by omega)), ?_⟩
    rcases g5 l (by omega) with ⟨e, _⟩ | ⟨o, ho, e, _⟩
    · exact Or.inl e
    · exact Or.inr ⟨o, ho, e⟩
  · exact Or.inr ⟨hx, oo_out hl hO g7 hx fu on' 0 fu (by omega) (by omega)⟩
theorem pick_ok (y : Int64) {p : Nat} (h : p < 16) : ∃ j, j ≤ p ∧ ((y.toUInt64 >>> ((33 : Int32).toInt64.toUInt64 &&& Int64.toUInt64 63)).toInt64 - (y.toUInt64 >>> ((33 : Int32).toInt64.toUInt64 &&& Int64.toUInt64 63)).toInt64 / (nI p + 1).toInt64 * (nI p + 1).toInt64).toInt32 = nI j := by
  have hz : ∃ a : Nat, a < 2 ^ 31 ∧ (y.toUInt64 >>> ((33 : Int32).toInt64.toUInt64 &&& Int64.toUInt64 63)).toInt64.toInt = (a : Int) := by
    have hk : (((33 : Int32).toInt64.toUInt64 &&& Int64.toUInt64 63) % 64).toBitVec.toNat = 33 := by decide
    have e1 : (y.toUInt64 >>> ((33 : Int32).toInt64.toUInt64 &&& Int64.toUInt64 63)).toInt64.toBitVec.toNat = y.toBitVec.toNat >>> 33 := by
      show (y.toBitVec >>> (((33 : Int32).toInt64.toUInt64 &&& Int64.toUInt64 63) % 64).toBitVec).toNat = _
      rw [BitVec.ushiftRight_eq', BitVec.toNat_ushiftRight, hk]
    have e2 : y.toBitVec.toNat >>> 33 < 2 ^ 31 := by
      rw [Nat.shiftRight_eq_div_pow]
      have := y.toBitVec.isLt
      omega
    refine ⟨y.toBitVec.toNat >>> 33, e2, ?_⟩
    rw [← Int64.toInt_toBitVec, BitVec.toInt_eq_toNat_of_lt (by rw [e1]; omega), e1]
  obtain ⟨a, ha, ez⟩ := hz
  generalize (y.toUInt64 >>> ((33 : Int32).toInt64.toUInt64 &&& Int64.toUInt64 63)).toInt64 = z at ez ⊢
  have ed : (nI p + 1).toInt64.toInt = ((p + 1 : Nat) : Int) := by
    rw [Int32.toInt_toInt64, add1, nI_toInt (by omega)]
  generalize (nI p + 1).toInt64 = d at ed ⊢
  have hq : a / (p + 1) ≤ a := Nat.div_le_self _ _
  have hm : a / (p + 1) * (p + 1) ≤ a := Nat.div_mul_le_self _ _
  have hr : a % (p + 1) = a - a / (p + 1) * (p + 1) := by
    have h1 := Nat.div_add_mod a (p + 1)
    rw [Nat.mul_comm] at h1
    generalize a / (p + 1) * (p + 1) = w at h1 ⊢
    generalize a % (p + 1) = u at h1 ⊢
    omega
  have hlt : a % (p + 1) < p + 1 := Nat.mod_lt _ (by omega)
  have e1 : (z / d).toInt = ((a / (p + 1) : Nat) : Int) := by
    rw [Int64.toInt_div, ez, ed, ← Int.ofNat_tdiv]
    generalize a / (p + 1) = q at hq ⊢
    exact Int.bmod_eq_of_le (by omega) (by omega)
  have e2 : (z / d * d).toInt = ((a / (p + 1) * (p + 1) : Nat) : Int) := by
    rw [Int64.toInt_mul, e1, ed, ← Int.natCast_mul]
    generalize a / (p + 1) * (p + 1) = w at hm ⊢
    exact Int.bmod_eq_of_le (by omega) (by omega)
  refine ⟨a % (p + 1), by omega, ?_⟩
  rw [← Int32.toInt_inj, Int64.toInt_toInt32, Int64.toInt_sub, ez, e2, nI_toInt (by omega), hr]
  rw [hr] at hlt
  generalize a / (p + 1) * (p + 1) = w at hm hlt ⊢
  rw [Int.bmod_eq_of_le (n := (a : Int) - _) (by omega) (by omega), Int.bmod_eq_of_le (by omega) (by omega)]
  omega
theorem m1p {p : Nat} (h : 1 ≤ p) : nI p + (-1) = nI (p - 1) := by
  have : nI p = nI (p - 1) + 1 := by rw [add1, Nat.sub_add_cancel h]
  rw [this, Int32.add_assoc, show (1 : Int32) + (-1) = 0 from by decide, Int32.add_zero]
end SHUF
