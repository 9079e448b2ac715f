/-! papers: whether a paper is read, whether unlike; the count of papers -/
section UNL
variable {C R M : xM} {fu kn lim p : Nat}
theorem ra_ok (hfu : 70000 ≤ fu) (hK : RMk kn C R) (hp : p < 30) : ∃ v, F_X6_isReadAtAll fu (nI p) C = some (v, C) ∧ ((v = 0 ∧ ∀ h, h < 4 → ¬ rdH R p h) ∨ v = 1) ∧ ∀ M, PS R M → F_X12_isAnyRead fu (nI p) M = some (v, M) := by
  have loop : ∀ k i n1, i + k = 4 → k < n1 → ∃ v, F_X6_isReadAtAll_b2 fu (nI p) n1 (nI i) C = some (v, C) ∧ ((v = 0 ∧ ∀ h, i ≤ h → h < 4 → ¬ rdH R p h) ∨ v = 1) ∧ ∀ M n2, k < n2 → PS R M → F_X12_isAnyRead_b2 fu (nI p) n2 (nI i) M = some (v, M) := by
    intro k
    induction k with
    | zero =>
      intro i n1 hk hn1
      obtain ⟨n1, rfl⟩ : ∃ z, n1 = z + 1 := ⟨n1 - 1, by omega⟩
      obtain rfl : i = 4 := by omega
      refine ⟨0, ?_, Or.inl ⟨rfl, fun h h1 h2 => absurd h1 (by omega)⟩, fun M n2 hn2 hP => ?_⟩
      · rw [F_X6_isReadAtAll_b2, if_pos (by decide)]
      · obtain ⟨n2, rfl⟩ : ∃ z, n2 = z + 1 := ⟨n2 - 1, by omega⟩
        rw [F_X12_isAnyRead_b2, if_pos (by decide)]
    | succ k ih =>
      intro i n1 hk hn1
      obtain ⟨n1, rfl⟩ : ∃ z, n1 = z + 1 := ⟨n1 - 1, by omega⟩
      have hi : i < 4 := by omega
      have n4 : ¬ (4 : Int32) ≤ nI i := nI_ge (b := 4) (by omega) (by decide)
      rcases rd3 hK (PS.rf (R := R)) hp hi with ⟨q1, q2, -⟩ | ⟨q1, q2, -⟩
      · refine ⟨1, ?_, Or.inr rfl, fun M n2 hn2 hP => ?_⟩
        · rw [F_X6_isReadAtAll_b2, if_neg n4, if_neg (by rw [q2]; decide)]
        · obtain ⟨n2, rfl⟩ : ∃ z, n2 = z + 1 := ⟨n2 - 1, by omega⟩
          rcases rd3 hK hP hp hi with ⟨-, -, u⟩ | ⟨u, -, -⟩
          · rw [F_X12_isAnyRead_b2, if_neg n4, u]
            rfl
          · exact absurd q1 u
      · obtain ⟨v, I1, I2, I3⟩ := ih (i + 1) n1 (by omega) (by omega)
        refine ⟨v, ?_, I2.imp (fun z => ⟨z.1, fun h h1 h2 => ?_⟩) id, fun M n2 hn2 hP => ?_⟩
        · rw [F_X6_isReadAtAll_b2, if_neg n4, if_pos q2, add1]
          exact I1
        · by_cases e : h = i
          · subst e
            exact q1
          · exact z.2 h (by omega) h2
        · obtain ⟨n2, rfl⟩ : ∃ z, n2 = z + 1 := ⟨n2 - 1, by omega⟩
          rcases rd3 hK hP hp hi with ⟨u, -, -⟩ | ⟨-, -, u⟩
          · exact absurd u q1
          · rw [F_X12_isAnyRead_b2, if_neg n4, u]
            simp only [Option.bind_some, add1]
            exact I3 M n2 (by omega) hP
  obtain ⟨v, h1, h2, h3⟩ := loop 4 0 fu (by omega) (by omega)
  exact ⟨v, h1, h2.imp (fun z => ⟨z.1, fun h hh => z.2 h (Nat.zero_le _) hh⟩) id, fun M hP => h3 M fu (by omega) hP⟩
theorem sme_ok (hfu : 70000 ≤ fu) {r0 n0 r2 n2 a b L : Nat} (h0 : a + L ≤ n0) (h2 : b + L ≤ n2) (hn0 : n0 ≤ 1000) (hn2 : n2 ≤ 1000) : ∃ v, F_X6_isSame fu r0 n0 (nI a) r2 n2 (nI b) (nI L) C = some (v, C) ∧ ((v = 1 ∧ ∀ i, i < L → C r0 (a + i) = C r2 (b + i)) ∨ (v = 0 ∧ ¬ ∀ i, i < L → C r0 (a + i) = C r2 (b + i))) := by
  have loop : ∀ k i n, i + k = L → k < n → (∀ t, t < i → C r0 (a + t) = C r2 (b + t)) → ∃ v, F_X6_isSame_b3 fu r0 n0 (nI a) r2 n2 (nI b) (nI L) n (nI i) C = some (v, C) ∧ ((v = 1 ∧ ∀ i, i < L → C r0 (a + i) = C r2 (b + i)) ∨ (v = 0 ∧ ¬ ∀ i, i < L → C r0 (a + i) = C r2 (b + i))) := by
    intro k
    induction k with
    | zero =>
      intro i n hk hn h
      obtain ⟨n, rfl⟩ : ∃ z, n = z + 1 := ⟨n - 1, by omega⟩
      rw [F_X6_isSame_b3, if_pos (nI_le (by omega) (by omega))]
      exact ⟨1, rfl, Or.inl ⟨rfl, fun t ht => h t (by omega)⟩⟩
    | succ k ih =>
      intro i n hk hn h
      obtain ⟨n, rfl⟩ : ∃ z, n = z + 1 := ⟨n - 1, by omega⟩
      rw [F_X6_isSame_b3, if_neg (show ¬ nI L ≤ nI i from nI_ge (by omega) (by omega)), nI_add, nI_add, at_ok (show a + i < n0 by omega) (by omega), at_ok (show b + i < n2 by omega) (by omega), add1]
      by_cases g : C r0 (a + i) = C r2 (b + i)
      · rw [if_pos g]
        refine ih (i + 1) n (by omega) (by omega) (fun t ht => ?_)
        by_cases e : t = i
        · subst e
          exact g
        · exact h t (by omega)
      · rw [if_neg g]
        exact ⟨0, rfl, Or.inr ⟨rfl, fun z => g (z i (by omega))⟩⟩
  exact loop L 0 fu (by omega) (by omega) (fun t ht => absurd ht (by omega))
/-- two readings are the same text -/
def txE (R : xM) (q q' : Nat) : Prop := R 34 q = R 34 q' ∧ ∀ i, i < (R 34 q).toNatClampNeg → R 32 (8 * q + i) = R 32 (8 * q' + i)
theorem txE.sym {q q' : Nat} (h : txE R q q') : txE R q' q := ⟨h.1.symm, fun i hi => (h.2 i (by rw [h.1]; exact hi)).symm⟩
theorem txE.tr {q q' q'' : Nat} (h : txE R q q') (h' : txE R q' q'') : txE R q q'' := ⟨h.1.trans h'.1, fun i hi => (h.2 i hi).trans (h'.2 i (by rw [← h.1]; exact hi))⟩
theorem txE.rf {q : Nat} : txE R q q := ⟨rfl, fun _ _ => rfl⟩
def unl (R : xM) (p : Nat) : Prop := ∃ h h', h < 4 ∧ h' < 4 ∧ rdH R p h ∧ rdH R p h' ∧ ¬ txE R (30 * h + p) (30 * h' + p)
theorem unlC (hfu : 70000 ≤ fu) (hK : RMk kn C R) (hp : p < 30) : ∃ v, F_X6_isUnlike fu (nI p) C = some (v, C) ∧ ((v = 1 ∧ unl R p) ∨ (v = 0 ∧ ¬ unl R p)) := by
  have body : ∀ i h0 n (k4 : Int32 → Int32 → xM → Option (Int32 × xM)), i < 4 → h0 < 4 → (txE R (30 * i + p) (30 * h0 + p) ∧ F_X6_isUnlike_b43 fu (nI p) k4 (nI (p * 4 + h0)) (nI i) (nI (p * 4 + i)) (P_X1_at 49 120 (nI (p * 4 + i)) C) C = k4 (nI (p * 4 + h0)) (nI (i + 1)) C) ∨ (¬ txE R (30 * i + p) (30 * h0 + p) ∧ F_X6_isUnlike_b43 fu (nI p) k4 (nI (p * 4 + h0)) (nI i) (nI (p * 4 + i)) (P_X1_at 49 120 (nI (p * 4 + i)) C) C = some (1, C) ∨ n = 0 ∧ n = 1) := by
    intro i h0 n k4 hi h0'
    obtain ⟨L, l1, l2, l3, l4⟩ := hK.2.2.2.2.1 p i hp hi
    obtain ⟨L', m1, m2, m3, m4⟩ := hK.2.2.2.2.1 p h0 hp h0'
    have e8 : ∀ a, nI a * (8 : Int32) = nI (a * 8) := fun a => pk_mul a 8
    unfold F_X6_isUnlike_b43 F_X6_isUnlike_b85 F_X6_isUnlike_b86 F_X6_isUnlike_b95
    rw [at_ok (show p * 4 + i < 120 by omega) (by decide), at_ok (show p * 4 + h0 < 120 by omega) (by decide), l2, m2, e8, e8]
    by_cases g : L = L'
    · subst g
      obtain ⟨v, s1, s2⟩ := sme_ok (C := C) (r0 := 48) (n0 := 960) (r2 := 48) (n2 := 960) (a := (p * 4 + i) * 8) (b := (p * 4 + h0) * 8) (L := L) hfu (by omega) (by omega) (by decide) (by decide)
      rw [if_pos rfl, s1]
      simp only [Option.bind_some]
      rcases s2 with ⟨rfl, s3⟩ | ⟨rfl, s3⟩
      · rw [if_neg (show ¬ (1 : Int32) = 0 by decide), if_neg (show ¬ (1 : Int32) = 0 by decide), add1]
        refine Or.inl ⟨⟨l3.trans m3.symm, fun t ht => ?_⟩, rfl⟩
        rw [l3, nI_clamp (by omega)] at ht
        rw [← l4 t ht, ← m4 t ht]
        exact s3 t ht
      · rw [if_pos rfl, if_pos True.intro]
        refine Or.inr (Or.inl ⟨fun z => s3 (fun t ht => ?_), rfl⟩)
        rw [l4 t ht, m4 t ht]
        exact z.2 t (by rw [l3, nI_clamp (by omega)]; exact ht)
    · rw [if_neg (fun z => g ((nI_eq (by omega) (by omega)).mp z)), if_pos rfl]
      refine Or.inr (Or.inl ⟨fun z => g ?_, rfl⟩)
      have := z.1
      rw [l3, m3] at this
      exact (nI_eq (by omega) (by omega)).mp this
  have at49 : ∀ i, i < 4 → (P_X1_at 49 120 (P_X6_reading (nI i) (nI p) C) C = 0 ↔ ¬ rdH R p i) := by
    intro i hi
    obtain ⟨L, l1, l2, l3, l4⟩ := hK.2.2.2.2.1 p i hp hi
    rw [ix4, at_ok (show p * 4 + i < 120 by omega) (by decide), l2]
    unfold rdH
    rw [l3]
    exact Classical.not_not.symm
  have loop2 : ∀ k i n h0, i + k = 4 → k < n → h0 < 4 → rdH R p h0 → (∀ h, h < i → rdH R p h → txE R (30 * h + p) (30 * h0 + p)) → ∃ v, F_X6_isUnlike_b4 fu (nI p) n (nI (p * 4 + h0)) (nI i) C = some (v, C) ∧ ((v = 1 ∧ unl R p) ∨ (v = 0 ∧ ¬ unl R p)) := by
    intro k
    induction k with
    | zero =>
      intro i n h0 hk hn hh hr h
      obtain ⟨n, rfl⟩ : ∃ z, n = z + 1 := ⟨n - 1, by omega⟩
      obtain rfl : i = 4 := by omega
      rw [F_X6_isUnlike_b4, if_pos (by decide)]
      refine ⟨0, rfl, Or.inr ⟨rfl, ?_⟩⟩
      rintro ⟨h1, h2, h3, h4, h5, h6, h7⟩
      exact h7 ((h h1 h3 h5).tr (h h2 h4 h6).sym)
    | succ k ih =>
      intro i n h0 hk hn hh hr h
      obtain ⟨n, rfl⟩ : ∃ z, n = z + 1 := ⟨n - 1, by omega⟩
      have hi : i < 4 := by omega
      have n4 : ¬ (4 : Int32) ≤ nI i := nI_ge (b := 4) (by omega) (by decide)
      rw [F_X6_isUnlike_b4, if_neg n4]
      by_cases g : rdH R p i
      · rw [if_neg (fun z => (at49 i hi).mp z g), if_neg (nIm1 (by omega)), ix4]
        rcases body i h0 5 (F_X6_isUnlike_b4 fu (nI p) n) hi hh with ⟨b1, b2⟩ | ⟨b1, b2⟩ | ⟨z, -⟩
        · rw [b2]
          refine ih (i + 1) n h0 (by omega) (by omega) hh hr (fun h' h1 h2 => ?_)
          by_cases e : h' = i
          · subst e
            exact b1
          · exact h h' (by omega) h2
        · rw [b2]
          exact ⟨1, rfl, Or.inl ⟨rfl, i, h0, hi, hh, g, hr, b1⟩⟩
        · exact absurd z (by decide)
      · rw [if_pos ((at49 i hi).mpr g), F_X6_isUnlike_b95, add1]
        refine ih (i + 1) n h0 (by omega) (by omega) hh hr (fun h' h1 h2 => ?_)
        by_cases e : h' = i
        · subst e
          exact absurd h2 g
        · exact h h' (by omega) h2
  have loop1 : ∀ k i n, i + k = 4 → k < n → (∀ h, h < i → ¬ rdH R p h) → ∃ v, F_X6_isUnlike_b4 fu (nI p) n (-1) (nI i) C = some (v, C) ∧ ((v = 1 ∧ unl R p) ∨ (v = 0 ∧ ¬ unl R p)) := by
    intro k
    induction k with
    | zero =>
      intro i n hk hn h
      obtain ⟨n, rfl⟩ : ∃ z, n = z + 1 := ⟨n - 1, by omega⟩
      obtain rfl : i = 4 := by omega
      rw [F_X6_isUnlike_b4, if_pos (by decide)]
      refine ⟨0, rfl, Or.inr ⟨rfl, ?_⟩⟩
      rintro ⟨h1, h2, h3, h4, h5, h6, h7⟩
      exact h h1 h3 h5
    | succ k ih =>
      intro i n hk hn h
      obtain ⟨n, rfl⟩ : ∃ z, n = z + 1 := ⟨n - 1, by omega⟩
      have hi : i < 4 := by omega
      have n4 : ¬ (4 : Int32) ≤ nI i := nI_ge (b := 4) (by omega) (by decide)
      rw [F_X6_isUnlike_b4, if_neg n4]
      by_cases g : rdH R p i
      · rw [if_neg (fun z => (at49 i hi).mp z g), if_pos rfl, ix4]
        rcases body i i 5 (F_X6_isUnlike_b4 fu (nI p) n) hi hi with ⟨b1, b2⟩ | ⟨b1, b2⟩ | ⟨z, -⟩
        · rw [b2]
          refine loop2 k (i + 1) n i (by omega) (by omega) hi g (fun h' h1 h2 => ?_)
          by_cases e : h' = i
          · subst e
            exact txE.rf
          · exact absurd h2 (h h' (by omega))
        · exact absurd txE.rf b1
        · exact absurd z (by decide)
      · rw [if_pos ((at49 i hi).mpr g), F_X6_isUnlike_b95, add1]
        refine ih (i + 1) n (by omega) (by omega) (fun h' h1 => ?_)
        by_cases e : h' = i
        · subst e
          exact g
        · exact h h' (by omega)
  exact loop1 4 0 fu (by omega) (by omega) (fun h z => absurd z (by omega))
theorem asR (hfu : 70000 ≤ fu) (hK : RMk kn C R) (hP : PS R M) (hp : p < 30) {h h' : Nat} (hh : h < 4) (hh' : h' < 4) : ∃ v, F_X12_areSame fu (nI (30 * h + p)) (nI (30 * h' + p)) M = some (v, M) ∧ ((v = 1 ∧ txE R (30 * h + p) (30 * h' + p)) ∨ (v = 0 ∧ ¬ txE R (30 * h + p) (30 * h' + p))) := by
  obtain ⟨L, l1, l2, l3, l4⟩ := hK.2.2.2.2.1 p h hp hh
  obtain ⟨L', m1, m2, m3, m4⟩ := hK.2.2.2.2.1 p h' hp hh'
  have p34 : ∀ j, M 34 j = R 34 j := fun j => hP 34 j (by decide) (fun z => absurd z.1 (by decide))
  have p32 : ∀ j, M 32 j = R 32 j := fun j => hP 32 j (by decide) (fun z => absurd z.1 (by decide))
  have x1 := idx_no (show 30 * h + p < 120 by omega) (by decide)
  have x2 := idx_no (show 30 * h' + p < 120 by omega) (by decide)
  unfold F_X12_areSame
  rw [if_neg x1, if_neg x2, nI_clamp (by omega), nI_clamp (by omega), p34, p34, l3, m3]
  by_cases g : L = L'
  · subst g
    rw [if_pos rfl]
    have loop : ∀ k i n, i + k = L → k < n → (∀ t, t < i → R 32 (8 * (30 * h + p) + t) = R 32 (8 * (30 * h' + p) + t)) → ∃ v, F_X12_areSame_b19 fu (nI (30 * h + p)) (nI (30 * h' + p)) n (nI i) M = some (v, M) ∧ ((v = 1 ∧ txE R (30 * h + p) (30 * h' + p)) ∨ (v = 0 ∧ ¬ txE R (30 * h + p) (30 * h' + p))) := by
      intro k
      induction k with
      | zero =>
        intro i n hk hn h1
        obtain ⟨n, rfl⟩ : ∃ z, n = z + 1 := ⟨n - 1, by omega⟩
        rw [F_X12_areSame_b19, if_neg x1, nI_clamp (by omega), p34, l3, if_pos (nI_le (by omega) (by omega))]
        refine ⟨1, rfl, Or.inl ⟨rfl, l3.trans m3.symm, fun t ht => ?_⟩⟩
        rw [l3, nI_clamp (by omega)] at ht
        exact h1 t (by omega)
      | succ k ih =>
        intro i n hk hn h1
        obtain ⟨n, rfl⟩ : ∃ z, n = z + 1 := ⟨n - 1, by omega⟩
        rw [F_X12_areSame_b19, if_neg x1, nI_clamp (by omega), p34, l3, if_neg (show ¬ nI L ≤ nI i from nI_ge (by omega) (by omega)), ix8, ix8, if_neg (idx_no (by omega) (by decide)), if_neg (idx_no (by omega) (by decide)), nI_clamp (by omega), nI_clamp (by omega), p32, p32, add1]
        by_cases e : R 32 (8 * (30 * h + p) + i) = R 32 (8 * (30 * h' + p) + i)
        · rw [if_pos e]
          refine ih (i + 1) n (by omega) (by omega) (fun t ht => ?_)
          by_cases z : t = i
          · subst z
            exact e
          · exact h1 t (by omega)
        · rw [if_neg e]
          refine ⟨0, rfl, Or.inr ⟨rfl, fun z => e (z.2 i ?_)⟩⟩
          rw [l3, nI_clamp (by omega)]
          omega
    exact loop L 0 fu (by omega) (by omega) (fun t ht => absurd ht (by omega))
  · rw [if_neg (fun z => g ((nI_eq (by omega) (by omega)).mp z))]
    refine ⟨0, rfl, Or.inr ⟨rfl, fun z => g ?_⟩⟩
    have := z.1
    rw [l3, m3] at this
    exact (nI_eq (by omega) (by omega)).mp this
theorem unlR (hfu : 70000 ≤ fu) (hK : RMk kn C R) (hP : PS R M) (hp : p < 30) : ∃ v, F_X12_isReadUnlike fu (nI p) M = some (v, M) ∧ ((v = 1 ∧ unl R p) ∨ (v = 0 ∧ ¬ unl R p)) := by
  have inner : ∀ k i j n (k2 : Int32 → xM → Option (Int32 × xM)), i < 4 → j + k = i → k < n → (∀ j', j' < j → rdH R p i → rdH R p j' → txE R (30 * i + p) (30 * j' + p)) → (F_X12_isReadUnlike_b9 fu (nI p) k2 n (nI i) (nI j) M = k2 (nI (i + 1)) M ∧ ∀ j', j' < i → rdH R p i → rdH R p j' → txE R (30 * i + p) (30 * j' + p)) ∨ (F_X12_isReadUnlike_b9 fu (nI p) k2 n (nI i) (nI j) M = some (1, M) ∧ unl R p) := by
    intro k
    induction k with
    | zero =>
      intro i j n k2 hi hk hn h1
      obtain ⟨n, rfl⟩ : ∃ z, n = z + 1 := ⟨n - 1, by omega⟩
      obtain rfl : j = i := by omega
      rw [F_X12_isReadUnlike_b9, if_pos (nI_le (Nat.le_refl _) (by omega)), add1]
      exact Or.inl ⟨rfl, h1⟩
    | succ k ih =>
      intro i j n k2 hi hk hn h1
      obtain ⟨n, rfl⟩ : ∃ z, n = z + 1 := ⟨n - 1, by omega⟩
      rw [F_X12_isReadUnlike_b9, if_neg (show ¬ nI i ≤ nI j from nI_ge (by omega) (by omega))]
      rcases rd3 hK hP hp hi with ⟨q1, -, q2⟩ | ⟨q1, -, q2⟩
      · rw [q2]
        simp only [Option.bind_some]
        rw [if_neg (show ¬ (1 : Int32) = 0 by decide)]
        rcases rd3 hK hP hp (show j < 4 by omega) with ⟨w1, -, w2⟩ | ⟨w1, -, w2⟩
        · obtain ⟨v, s1, s2⟩ := asR hfu hK hP hp hi (show j < 4 by omega)
          rw [w2]
          simp only [Option.bind_some]
          rw [if_neg (show ¬ (1 : Int32) = 0 by decide), ix30, ix30, s1]
          simp only [Option.bind_some]
          rcases s2 with ⟨rfl, s3⟩ | ⟨rfl, s3⟩
          · rw [if_neg (show ¬ (1 : Int32) = 0 by decide), F_X12_isReadUnlike_b53, add1]
            refine ih i (j + 1) n k2 hi (by omega) (by omega) (fun j' h2 h3 h4 => ?_)
            by_cases e : j' = j
            · subst e
              exact s3
            · exact h1 j' (by omega) h3 h4
          · rw [if_pos rfl]
            exact Or.inr ⟨rfl, i, j, hi, by omega, q1, w1, s3⟩
        · rw [w2]
          simp only [Option.bind_some]
          rw [if_pos True.intro, F_X12_isReadUnlike_b53, add1]
          refine ih i (j + 1) n k2 hi (by omega) (by omega) (fun j' h2 h3 h4 => ?_)
          by_cases e : j' = j
          · subst e
            exact absurd h4 w1
          · exact h1 j' (by omega) h3 h4
      · rw [q2]
        simp only [Option.bind_some]
        rw [if_pos True.intro, F_X12_isReadUnlike_b53, add1]
        exact ih i (j + 1) n k2 hi (by omega) (by omega) (fun j' h2 h3 h4 => absurd h3 q1)
  have outer : ∀ k i n, i + k = 4 → k < n → (∀ a j', a < i → j' < a → rdH R p a → rdH R p j' → txE R (30 * a + p) (30 * j' + p)) → ∃ v, F_X12_isReadUnlike_b2 fu (nI p) n (nI i) M = some (v, M) ∧ ((v = 1 ∧ unl R p) ∨ (v = 0 ∧ ¬ unl R p)) := by
    intro k
    induction k with
    | zero =>
      intro i n hk hn h1
      obtain ⟨n, rfl⟩ : ∃ z, n = z + 1 := ⟨n - 1, by omega⟩
      obtain rfl : i = 4 := by omega
      rw [F_X12_isReadUnlike_b2, if_pos (by decide)]
      refine ⟨0, rfl, Or.inr ⟨rfl, ?_⟩⟩
      rintro ⟨a, b, h3, h4, h5, h6, h7⟩
      rcases Nat.lt_trichotomy a b with g | g | g
      · exact h7 (h1 b a h4 g h6 h5).sym
      · subst g
        exact h7 txE.rf
      · exact h7 (h1 a b h3 g h5 h6)
    | succ k ih =>
      intro i n hk hn h1
      obtain ⟨n, rfl⟩ : ∃ z, n = z + 1 := ⟨n - 1, by omega⟩
      have n4 : ¬ (4 : Int32) ≤ nI i := nI_ge (b := 4) (by omega) (by decide)
      rw [F_X12_isReadUnlike_b2, if_neg n4]
      rcases inner i i 0 fu (F_X12_isReadUnlike_b2 fu (nI p) n) (by omega) (by omega) (by omega) (fun j' z => absurd z (by omega)) with ⟨a1, a2⟩ | ⟨a1, a2⟩
      · rw [show F_X12_isReadUnlike_b9 fu (nI p) (F_X12_isReadUnlike_b2 fu (nI p) n) fu (nI i) 0 M = _ from a1]
        refine ih (i + 1) n (by omega) (by omega) (fun a j' h2 h3 h4 h5 => ?_)
        by_cases e : a = i
        · subst e
          exact a2 j' h3 h4 h5
        · exact h1 a j' (by omega) h3 h4 h5
      · rw [show F_X12_isReadUnlike_b9 fu (nI p) (F_X12_isReadUnlike_b2 fu (nI p) n) fu (nI i) 0 M = _ from a1]
        exact ⟨1, rfl, Or.inl ⟨rfl, a2⟩⟩
  exact outer 4 0 fu (by omega) (by omega) (fun a j' z => absurd z (by omega))
end UNL
