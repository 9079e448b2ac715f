/-! papers: the count of papers of a kind -/
section PAPS
variable {C R M : xM} {fu kn lim p c : Nat}
theorem cn0 : (nI 0 : Int32) = 0 := rfl
theorem cn1 : (nI 1 : Int32) = 1 := rfl
theorem pp_step (hfu : 70000 ≤ fu) (hK : RMk kn C R) (hl : lim ≤ 8) (c91 : C 9 1 = nI lim) (r59 : R 0 59 = nI lim) (hp : p < 30) (hc : c < 4) : ∃ b, b ≤ 1 ∧ F_X6_counts fu (nI p) (nI c) C = some (nI b, C) ∧ ∀ M n a, PS R M → ∃ M', PS R M' ∧ F_X12_papers_b20 fu (nI c) (n + 1) (nI a) (nI p) M = F_X12_papers_b20 fu (nI c) n (nI (a + b)) (nI (p + 1)) M' := by
  obtain ⟨v1, a1, a2, a3⟩ := ra_ok hfu hK hp
  obtain ⟨v2, b1, b2, b3⟩ := ag_ok hfu hK hl c91 r59 hp
  obtain ⟨v3, c1, c2⟩ := unlC hfu hK hp
  have n30 : ¬ (30 : Int32) ≤ nI p := nI_ge (b := 30) (by omega) (by decide)
  have k10 : ¬ (nI 1 : Int32) = 0 := by decide
  have k20 : ¬ (nI 2 : Int32) = 0 := by decide
  have k30 : ¬ (nI 3 : Int32) = 0 := by decide
  have k21 : ¬ (nI 2 : Int32) = 1 := by decide
  have k31 : ¬ (nI 3 : Int32) = 1 := by decide
  have k32 : ¬ (nI 3 : Int32) = 2 := by decide
  have k22 : (nI 2 : Int32) = 2 := rfl
  have k11 : (nI 1 : Int32) = 1 := rfl
  have k00 : (nI 0 : Int32) = 0 := rfl
  have o0 : ¬ (1 : Int32) = 0 := by decide
  rcases a2 with ⟨rfl, a2⟩ | rfl
  · have e2 := b2 a2
    subst e2
    have e3 : v3 = 0 := by
      rcases c2 with ⟨-, h, h', h1, -, h3, -⟩ | ⟨z, -⟩
      · exact absurd h3 (a2 h h1)
      · exact z
    subst e3
    refine ⟨0, by decide, ?_, fun M n a hP => ⟨M, hP, ?_⟩⟩
    · unfold F_X6_counts
      rcases (show c = 0 ∨ c = 1 ∨ c = 2 ∨ c = 3 by omega) with rfl | rfl | rfl | rfl
      · rw [if_pos k00, a1]
        rfl
      · rw [if_neg k10, if_pos k11, b1]
        rfl
      · rw [if_neg k20, if_neg k21, if_pos k22, a1]
        rfl
      · rw [if_neg k30, if_neg k31, if_neg k32, c1]
        rfl
    · rw [F_X12_papers_b20, if_neg n30, a3 M hP]
      simp only [Option.bind_some]
      rw [if_pos True.intro, F_X12_papers_b102, add1]
      rfl
  · have hb : ∃ b, b ≤ 1 ∧ F_X6_counts fu (nI p) (nI c) C = some (nI b, C) ∧ ((c = 0 ∧ b = 1) ∨ (c = 1 ∧ b = if v2 = -1 then 0 else 1) ∨ (c = 2 ∧ b = if v2 = -1 then 1 else 0) ∨ (c = 3 ∧ v3 = nI b)) := by
      unfold F_X6_counts
      rcases (show c = 0 ∨ c = 1 ∨ c = 2 ∨ c = 3 by omega) with rfl | rfl | rfl | rfl
      · rw [if_pos k00, a1]
        exact ⟨1, by decide, rfl, Or.inl ⟨rfl, rfl⟩⟩
      · rw [if_neg k10, if_pos k11, b1]
        simp only [Option.bind_some]
        by_cases e : v2 = -1
        · rw [if_pos e]
          exact ⟨0, by decide, rfl, Or.inr (Or.inl ⟨trivial, (if_pos e).symm⟩)⟩
        · rw [if_neg e]
          exact ⟨1, by decide, rfl, Or.inr (Or.inl ⟨trivial, (if_neg e).symm⟩)⟩
      · rw [if_neg k20, if_neg k21, if_pos k22, a1]
        simp only [Option.bind_some]
        rw [if_neg o0, b1]
        simp only [Option.bind_some]
        by_cases e : v2 = -1
        · rw [if_pos e]
          exact ⟨1, by decide, rfl, Or.inr (Or.inr (Or.inl ⟨trivial, (if_pos e).symm⟩))⟩
        · rw [if_neg e]
          exact ⟨0, by decide, rfl, Or.inr (Or.inr (Or.inl ⟨trivial, (if_neg e).symm⟩))⟩
      · rw [if_neg k30, if_neg k31, if_neg k32, c1]
        rcases c2 with ⟨rfl, -⟩ | ⟨rfl, -⟩
        · exact ⟨1, by decide, rfl, Or.inr (Or.inr (Or.inr ⟨rfl, rfl⟩))⟩
        · exact ⟨0, by decide, rfl, Or.inr (Or.inr (Or.inr ⟨rfl, rfl⟩))⟩
    obtain ⟨b, h1, h2, h3⟩ := hb
    refine ⟨b, h1, h2, fun M n a hP => ?_⟩
    obtain ⟨M1, g1, hP1⟩ := b3 M hP
    refine ⟨M1, hP1, ?_⟩
    have b0 : ∀ s : Int32, F_X12_papers_b51 fu (nI c) (F_X12_papers_b20 fu (nI c) n) (nI a) (nI p) s M1 = F_X12_papers_b51 fu (nI c) (F_X12_papers_b20 fu (nI c) n) (nI a) (nI p) s M1 := fun _ => rfl
    rw [F_X12_papers_b20, if_neg n30, a3 M hP]
    simp only [Option.bind_some]
    rw [if_neg o0, g1]
    simp only [Option.bind_some, F_X12_papers_b51, F_X12_papers_b95, F_X12_papers_b99, F_X12_papers_b100, F_X12_papers_b102, add1]
    rcases h3 with ⟨rfl, rfl⟩ | ⟨rfl, h3⟩ | ⟨rfl, h3⟩ | ⟨rfl, h3⟩
    · simp only [if_pos k00, if_true]
      split <;> rfl
    · simp only [if_neg k10, if_pos k11]
      by_cases e : v2 = -1
      · rw [if_pos e] at h3
        rw [if_pos e, if_pos True.intro, h3]
        exact congrArg (fun z => F_X12_papers_b20 fu (nI 1) n z (nI (p + 1)) M1) (nI_add a 0)
      · rw [if_neg e] at h3
        rw [if_neg e, if_neg o0, h3]
    · simp only [if_neg k20, if_neg k21, if_pos k22]
      by_cases e : v2 = -1
      · rw [if_pos e] at h3
        rw [if_pos e, if_pos True.intro, h3]
      · rw [if_neg e] at h3
        rw [if_neg e, if_neg o0, h3]
        exact congrArg (fun z => F_X12_papers_b20 fu (nI 2) n z (nI (p + 1)) M1) (nI_add a 0)
    · obtain ⟨v4, d1, d2⟩ := unlR hfu hK hP1 hp
      have e4 : v4 = v3 := by
        rcases c2 with ⟨rfl, c2⟩ | ⟨rfl, c2⟩
        · rcases d2 with ⟨z, -⟩ | ⟨-, d2⟩
          · exact z
          · exact absurd c2 d2
        · rcases d2 with ⟨-, d2⟩ | ⟨z, -⟩
          · exact absurd d2 c2
          · exact z
      subst e4
      simp only [if_neg k30, if_neg k31, if_neg k32, d1, Option.bind_some]
      rw [h3]
      rcases (show b = 0 ∨ b = 1 by omega) with rfl | rfl
      · simp only [if_pos k00]
        split
        · exact congrArg (fun z => F_X12_papers_b20 fu (nI 3) n z (nI (p + 1)) M1) (nI_add a 0)
        · exact congrArg (fun z => F_X12_papers_b20 fu (nI 3) n z (nI (p + 1)) M1) (nI_add a 0)
      · simp only [if_neg k10]
        split <;> rfl
theorem op_papers (hfu : 70000 ≤ fu) (x1 : Int32) (hM : RM C R) (hI : RI C R) : ∃ v R', F_X11_papers fu x1 C = some (v, C) ∧ F_X12_papers fu x1 R = some (v, R') := by
  obtain ⟨kn, hK⟩ := hM
  obtain ⟨lim, hl, c91, r59⟩ := hI
  unfold F_X12_papers F_X11_papers
  rw [isIn_eq (N := C)]
  by_cases g : P_X1_within x1 0 3 C = 0
  · rw [if_pos g, if_pos g]
    exact ⟨_, _, rfl, rfl⟩
  obtain ⟨c, hc, rfl⟩ := Classical.not_not.mp fun z => g ((within0n (n := 3) (by decide)).mpr z)
  rw [if_neg g, if_neg g]
  have loop : ∀ k p n1 a, p + k = 30 → k < n1 → ∃ v, F_X6_howMany_b4 fu (nI c) n1 (nI a) (nI p) C = some (v, C) ∧ ∀ M n2, k < n2 → PS R M → ∃ M', F_X12_papers_b20 fu (nI c) n2 (nI a) (nI p) M = some (v, M') := by
    intro k
    induction k with
    | zero =>
      intro p n1 a hk hn1
      obtain ⟨n1, rfl⟩ : ∃ z, n1 = z + 1 := ⟨n1 - 1, by omega⟩
      obtain rfl : p = 30 := by omega
      refine ⟨nI a, ?_, fun M n2 hn2 hP => ⟨M, ?_⟩⟩
      · rw [F_X6_howMany_b4, if_pos (by decide)]
      · obtain ⟨n2, rfl⟩ : ∃ z, n2 = z + 1 := ⟨n2 - 1, by omega⟩
        rw [F_X12_papers_b20, if_pos (by decide)]
    | succ k ih =>
      intro p n1 a hk hn1
      obtain ⟨n1, rfl⟩ : ∃ z, n1 = z + 1 := ⟨n1 - 1, by omega⟩
      obtain ⟨b, h1, h2, h3⟩ := pp_step hfu hK hl c91 r59 (show p < 30 by omega) hc
      obtain ⟨v, I1, I2⟩ := ih (p + 1) n1 (a + b) (by omega) (by omega)
      refine ⟨v, ?_, fun M n2 hn2 hP => ?_⟩
      · rw [F_X6_howMany_b4, if_neg (show ¬ (30 : Int32) ≤ nI p from nI_ge (b := 30) (by omega) (by decide)), h2]
        simp only [Option.bind_some, F_X6_howMany_b22, add1]
        rcases (show b = 0 ∨ b = 1 by omega) with rfl | rfl
        · rw [if_pos (show nI 0 = 0 from rfl)]
          exact I1
        · rw [if_neg (show ¬ nI 1 = 0 by decide)]
          exact I1
      · obtain ⟨n2, rfl⟩ : ∃ z, n2 = z + 1 := ⟨n2 - 1, by omega⟩
        obtain ⟨M', hP', e⟩ := h3 M n2 a hP
        rw [e]
        exact I2 M' n2 (by omega) hP'
  obtain ⟨v, h1, h2⟩ := loop 30 0 fu 0 (by omega) (by omega)
  obtain ⟨M', e⟩ := h2 _ fu (by omega) PS.x00
  rw [show F_X6_howMany fu (nI c) C = _ from h1]
  exact ⟨v, M', rfl, e⟩
end PAPS
