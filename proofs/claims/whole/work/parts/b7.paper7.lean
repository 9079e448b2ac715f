/-! papers: a word, a name made known -/
section WORD
variable {C R M : xM} {fu kn lim tl : Nat}
def okB (x1 : Int32) (b : Nat) : Bool := decide (97 ≤ b ∧ b ≤ 122) || (decide (¬ x1 = 0) && decide (b = 46))
theorem sbf1 : ∀ b, b < 256 → 97 ≤ b ∧ b ≤ 122 → ¬ sb b < 97 ∧ sb b ≤ 122 := by decide +kernel
theorem sbf2 : ∀ b, b < 256 → ¬ (97 ≤ b ∧ b ≤ 122) → sb b < 97 ∨ ¬ sb b ≤ 122 := by decide +kernel
theorem sbf3 : ∀ b, b < 256 → (sb b = 46 ↔ b = 46) := by decide +kernel
theorem sbf4 : ∀ b, b < 128 → sb b = nI b := by decide +kernel
theorem word_ok (hfu : 70000 ≤ fu) (x1 : Int32) (htl : tl ≤ 120) (c21 : C 2 1 = nI tl) (r15 : R 0 15 = nI tl) (hT : RT C R) : ∃ v : Int32, F_X9_isWord fu x1 C = some (v, C) ∧ F_X12_isText fu x1 R = some (v, R) ∧ (v = 0 ∨ (v = 1 ∧ 1 ≤ tl ∧ tl ≤ 8 ∧ ∀ i, i < tl → C 17 i = R 7 i ∧ vp_nar .byte (R 7 i) = R 7 i)) := by
  have stepC : ∀ i n b, i < tl → b < 256 → C 17 i = nI b → F_X9_isWord_b17 fu x1 (n + 1) (nI i) C = if okB x1 b = true then F_X9_isWord_b17 fu x1 n (nI (i + 1)) C else some (0, C) := by
    intro i n b hi hb hc
    have w : P_X1_within (nI b) 97 122 C = 0 ↔ ¬ (97 ≤ b ∧ b ≤ 122) := within0.trans (not_congr (and_congr (nI_leI (a := 97) (by decide) (by omega)) (nI_leI (b := 122) (by omega) (by decide))))
    have e46 : nI b = (46 : Int32) ↔ b = 46 := nI_eq (b := 46) (by omega) (by decide)
    rw [F_X9_isWord_b17, c21, if_neg (show ¬ nI tl ≤ nI i from nI_ge (by omega) (by omega)), at_ok (show i < 120 by omega) (by decide), hc]
    simp only [F_X9_isWord_b48, F_X9_isWord_b49, F_X9_isWord_b69, add1]
    by_cases z : x1 = 0
    · rw [if_pos z, if_pos True.intro]
      by_cases r : 97 ≤ b ∧ b ≤ 122
      · rw [if_neg (fun q => (w.mp q) r), if_pos (by simp [okB, r])]
      · rw [if_pos (w.mpr r), if_neg (by simp only [okB, z, decide_eq_false r]; simp)]
    · rw [if_neg z]
      by_cases e : b = 46
      · rw [if_pos (e46.mpr e), if_neg (show ¬ (1 : Int32) = 0 by decide), if_pos (by simp [okB, z, e])]
      · rw [if_neg (fun q => e (e46.mp q)), if_pos True.intro]
        by_cases r : 97 ≤ b ∧ b ≤ 122
        · rw [if_neg (fun q => (w.mp q) r), if_pos (by simp [okB, r])]
        · rw [if_pos (w.mpr r), if_neg (by simp only [okB, decide_eq_false r, decide_eq_false e]; simp)]
  have stepR : ∀ i n b, i < tl → b < 256 → R 7 i = sb b → F_X12_isText_b21 fu x1 (n + 1) (nI i) R = if okB x1 b = true then F_X12_isText_b21 fu x1 n (nI (i + 1)) R else some (0, R) := by
    intro i n b hi hb hc
    have ix := idx_no (show i < 120 by omega) (by decide)
    have d51 : F_X12_isText_b51 fu x1 (F_X12_isText_b21 fu x1 n) (nI i) R = if x1 = 0 then some (0, R) else if b = 46 then F_X12_isText_b21 fu x1 n (nI (i + 1)) R else some (0, R) := by
      rw [F_X12_isText_b51, if_neg ix, nI_clamp (by omega), hc, F_X12_isText_b68, add1]
      by_cases e : b = 46
      · rw [if_pos ((sbf3 b hb).mpr e), if_pos e]
      · rw [if_neg (fun q => e ((sbf3 b hb).mp q)), if_neg e]
    rw [F_X12_isText_b21, r15, if_neg (show ¬ nI tl ≤ nI i from nI_ge (by omega) (by omega)), if_neg ix, if_neg ix, nI_clamp (by omega), hc, F_X12_isText_b68, add1]
    by_cases r : 97 ≤ b ∧ b ≤ 122
    · obtain ⟨f1, f2⟩ := sbf1 b hb r
      rw [if_neg f1, if_pos f2, if_pos (by simp [okB, r])]
    · have e : (if sb b < 97 then F_X12_isText_b51 fu x1 (F_X12_isText_b21 fu x1 n) (nI i) R else if sb b ≤ 122 then F_X12_isText_b21 fu x1 n (nI (i + 1)) R else F_X12_isText_b51 fu x1 (F_X12_isText_b21 fu x1 n) (nI i) R) = F_X12_isText_b51 fu x1 (F_X12_isText_b21 fu x1 n) (nI i) R := by
        by_cases g : sb b < 97
        · rw [if_pos g]
        · rw [if_neg g]
          rcases sbf2 b hb r with q | q
          · exact absurd q g
          · rw [if_neg q]
      rw [e, d51]
      by_cases z : x1 = 0
      · rw [if_pos z, if_neg (by simp only [okB, z, decide_eq_false r]; simp)]
      · rw [if_neg z]
        by_cases e : b = 46
        · rw [if_pos e, if_pos (by simp [okB, z, e])]
        · rw [if_neg e, if_neg (by simp only [okB, decide_eq_false r, decide_eq_false e]; simp)]
  have loop : 1 ≤ tl → tl ≤ 8 → ∀ k i n1 n2, i + k = tl → k < n1 → k < n2 → (∀ t, t < i → C 17 t = R 7 t ∧ vp_nar .byte (R 7 t) = R 7 t) → ∃ v : Int32, F_X9_isWord_b17 fu x1 n1 (nI i) C = some (v, C) ∧ F_X12_isText_b21 fu x1 n2 (nI i) R = some (v, R) ∧ (v = 0 ∨ (v = 1 ∧ 1 ≤ tl ∧ tl ≤ 8 ∧ ∀ i, i < tl → C 17 i = R 7 i ∧ vp_nar .byte (R 7 i) = R 7 i)) := by
    intro g1 g2 k
    induction k with
    | zero =>
      intro i n1 n2 hk hn1 hn2 h
      obtain ⟨n1, rfl⟩ : ∃ z, n1 = z + 1 := ⟨n1 - 1, by omega⟩
      obtain ⟨n2, rfl⟩ : ∃ z, n2 = z + 1 := ⟨n2 - 1, by omega⟩
      refine ⟨1, ?_, ?_, Or.inr ⟨rfl, g1, g2, fun t ht => h t (by omega)⟩⟩
      · rw [F_X9_isWord_b17, c21, if_pos (nI_le (by omega) (by omega))]
      · rw [F_X12_isText_b21, r15, if_pos (nI_le (by omega) (by omega))]
    | succ k ih =>
      intro i n1 n2 hk hn1 hn2 h
      obtain ⟨n1, rfl⟩ : ∃ z, n1 = z + 1 := ⟨n1 - 1, by omega⟩
      obtain ⟨n2, rfl⟩ : ∃ z, n2 = z + 1 := ⟨n2 - 1, by omega⟩
      obtain ⟨b, hb, hc, hr⟩ := hT i (by omega)
      rw [stepC i n1 b (by omega) hb hc, stepR i n2 b (by omega) hb hr]
      by_cases o : okB x1 b = true
      · rw [if_pos o, if_pos o]
        refine ih (i + 1) n1 n2 (by omega) (by omega) (by omega) (fun t ht => ?_)
        by_cases e : t = i
        · subst e
          have hlt : b < 128 := by
            simp only [okB, Bool.or_eq_true, Bool.and_eq_true, decide_eq_true_eq] at o
            omega
          rw [hr, sbn b hb]
          exact ⟨hc.trans (sbf4 b hlt).symm, rfl⟩
        · exact h t (by omega)
      · rw [if_neg o, if_neg o]
        exact ⟨0, rfl, rfl, Or.inl rfl⟩
  have w : P_X1_within (nI tl) 1 8 C = 0 ↔ ¬ (1 ≤ tl ∧ tl ≤ 8) := within0.trans (not_congr (and_congr (nI_leI (a := 1) (by decide) (by omega)) (nI_leI (b := 8) (by omega) (by decide))))
  rw [F_X9_isWord, F_X12_isText, c21, r15]
  by_cases g : 1 ≤ tl ∧ tl ≤ 8
  · rw [if_neg (fun q => w.mp q g), if_neg (show ¬ nI tl < 1 from nI_nlt (b := 1) (by omega) (by omega)), if_pos (show nI tl ≤ 8 from nI_le (b := 8) g.2 (by decide))]
    exact loop g.1 g.2 tl 0 fu fu (by omega) (by omega) (by omega) (fun t ht => absurd ht (by omega))
  · rw [if_pos (w.mpr g)]
    refine ⟨0, rfl, ?_, Or.inl rfl⟩
    by_cases g1 : tl = 0
    · subst g1
      rw [if_pos (by decide)]
    · rw [if_neg (show ¬ nI tl < 1 from nI_nlt (b := 1) (by omega) (by omega)), if_neg (show ¬ nI tl ≤ 8 from nI_ge (a := 8) (by omega) (by omega))]
/-- a distance kept by the class is the reference's -/
theorem dst_eq {q n L LN : Nat} {a b : Nat → Int32} (r34 : R 34 q = nI L) (r33 : R 33 n = nI LN) (hL : L ≤ 8) (hLN : LN ≤ 8) (ha : ∀ i, i < L → a i = R 32 (8 * q + i)) (hb : ∀ j, j < LN → b j = R 31 (8 * n + j)) : ed a b L LN = dst R q n := by
  unfold dst
  rw [r34, r33, nI_clamp (by omega), nI_clamp (by omega)]
  exact ed_ext L ha LN hb
end WORD
