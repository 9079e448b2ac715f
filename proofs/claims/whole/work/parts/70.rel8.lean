section SWEEP2
variable {C R : xM}
theorem nIm1 {j : Nat} (h : j < 2 ^ 31) : ¬ (nI j = -1) := by
  intro z
  have h1 : (nI j).toInt = (-1 : Int32).toInt := by rw [z]
  rw [nI_toInt h] at h1
  have h2 : (-1 : Int32).toInt = -1 := by decide
  omega
theorem bst_in (p : Nat → Bool) : ∀ i, bst p i = -1 ∧ (∀ j, j < i → p j = false) ∨ ∃ j, j < i ∧ bst p i = nI j ∧ p j = true := by
  intro i
  induction i with
  | zero => exact Or.inl ⟨rfl, fun j hj => absurd hj (by omega)⟩
  | succ i ih =>
    rw [bst]
    cases hp : p i with
    | false =>
      rw [Bool.false_and, if_neg (by decide)]
      rcases ih with ⟨h1, h2⟩ | ⟨j, h1, h2, h3⟩
      · refine Or.inl ⟨h1, fun j hj => ?_⟩
        by_cases ej : j = i
        · subst ej
          exact hp
        · exact h2 j (by omega)
      · exact Or.inr ⟨j, by omega, h2, h3⟩
    | true =>
      rw [Bool.true_and]
      split
      · exact Or.inr ⟨i, by omega, rfl, hp⟩
      · rename_i hh
        rcases ih with ⟨h1, h2⟩ | ⟨j, h1, h2, h3⟩
        · exfalso
          apply hh
          rw [h1]
          simp
        · exact Or.inr ⟨j, by omega, h2, h3⟩
theorem fwC_loop {sn N : Nat} (h : SV C R sn) (h15 : ∀ k, k < 1024 → C 15 k = if hitB R sn N k = true then 1 else 0) {fu : Nat} (hfu : 70000 ≤ fu) : ∀ (k i n : Nat) (x : Int32), i + k = 2 ^ sn → k < n → (bst (ndB R sn N) i = -1 ∧ x = nI (2 ^ sn - 1) ∨ ¬ (bst (ndB R sn N) i = -1) ∧ x = bst (ndB R sn N) i) → F_X0_fewestStraps_b10 fu n x (nI i) C = some (bst (ndB R sn N) (2 ^ sn), C) := by
  have h1 := h.1
  have h2 := h.2.1
  have hb := p2s h1
  have hp := p2p sn
  have hF : ndB R sn N (2 ^ sn - 1) = true := by
    unfold ndB
    exact decide_eq_true fun k hk hk1 _ => fullA sn h1 k hk hk1
  intro k
  induction k with
  | zero =>
    intro i n x hi hn hx
    obtain ⟨n, rfl⟩ : ∃ z, n = z + 1 := ⟨n - 1, by omega⟩
    obtain rfl : i = 2 ^ sn := by omega
    rw [F_X0_fewestStraps_b10, h2, all_eq (by omega), if_pos ((dec_ge (by omega) (by omega)).mpr (by omega))]
    rcases hx with ⟨e1, e2⟩ | ⟨e1, e2⟩
    · rcases bst_in (ndB R sn N) (2 ^ sn) with ⟨z1, z2⟩ | ⟨j, z1, z2, z3⟩
      · have := z2 (2 ^ sn - 1) (by omega)
        rw [hF] at this
        exact absurd this (by decide)
      · exact absurd (z2.symm.trans e1) (nIm1 (by omega))
    · rw [e2]
  | succ k ih =>
    intro i n x hi hn hx
    obtain ⟨n, rfl⟩ : ∃ z, n = z + 1 := ⟨n - 1, by omega⟩
    rw [F_X0_fewestStraps_b10, h2, all_eq (by omega), if_neg (fun z => by have := (dec_ge (n := 2 ^ sn) (j := i) (by omega) (by omega)).mp z; omega), hoC h h15 _ hfu, bef_eq (N := fun _ _ => 0), F_X0_fewestStraps_b39, add1]
    simp only [Option.bind_some, F_X0_fewestStraps_b39, add1]
    have hnd : (if enP R sn N (nI i) then (1 : Int32) else 0) = if ndB R sn N i = true then 1 else 0 := by
      unfold ndB
      by_cases hh : enP R sn N (nI i)
      · rw [if_pos hh, decide_eq_true hh, if_pos rfl]
      · rw [if_neg hh, decide_eq_false hh, if_neg (by decide)]
    rw [hnd]
    have step := bst_in (ndB R sn N) i
    have I := ih (i + 1) n
    rw [bst] at I
    rcases hx with ⟨e1, e2⟩ | ⟨e1, e2⟩
    · rw [e1] at I
      subst e2
      by_cases hi2 : i < 2 ^ sn - 1
      · rw [if_neg (fullB sn h1 i hi2)]
        cases hpi : ndB R sn N i with
        | false =>
          rw [if_neg (show ¬ (false = true) by decide), if_pos (show (0 : Int32) = 0 from rfl)]
          rw [hpi, Bool.false_and, if_neg (show ¬ (false = true) by decide)] at I
          exact I _ (by omega) (by omega) (Or.inl ⟨rfl, rfl⟩)
        | true =>
          rw [if_pos (show true = true from rfl), if_neg (show ¬ ((1 : Int32) = 0) by decide)]
          rw [hpi, if_pos (by simp)] at I
          exact I _ (by omega) (by omega) (Or.inr ⟨nIm1 (by omega), rfl⟩)
      · obtain rfl : i = 2 ^ sn - 1 := by omega
        rw [if_pos (fullS sn h1)]
        rw [hF, if_pos (by simp)] at I
        exact I _ (by omega) (by omega) (Or.inr ⟨nIm1 (by omega), rfl⟩)
    · subst e2
      by_cases hbf : P_X12_isBefore (nI i) (bst (ndB R sn N) i) (fun _ _ => 0) = 0
      · rw [if_pos hbf]
        rw [if_neg (by simp [e1, hbf])] at I
        exact I _ (by omega) (by omega) (Or.inr ⟨e1, rfl⟩)
      · rw [if_neg hbf]
        cases hpi : ndB R sn N i with
        | false =>
          rw [if_neg (show ¬ (false = true) by decide), if_pos (show (0 : Int32) = 0 from rfl)]
          rw [hpi, Bool.false_and, if_neg (show ¬ (false = true) by decide)] at I
          exact I _ (by omega) (by omega) (Or.inr ⟨e1, rfl⟩)
        | true =>
          rw [if_pos (show true = true from rfl), if_neg (show ¬ ((1 : Int32) = 0) by decide)]
          rw [hpi, if_pos (by simp [hbf])] at I
          exact I _ (by omega) (by omega) (Or.inr ⟨nIm1 (by omega), rfl⟩)
theorem fwC {sn N : Nat} (h : SV C R sn) (h15 : ∀ k, k < 1024 → C 15 k = if hitB R sn N k = true then 1 else 0) {fu : Nat} (hfu : 70000 ≤ fu) : F_X0_fewestStraps fu C = some (bst (ndB R sn N) (2 ^ sn), C) := by
  unfold F_X0_fewestStraps
  rw [h.2.1, all_eq (by have := h.1; omega), nI_m1 (p2p sn)]
  exact fwC_loop h h15 hfu (2 ^ sn) 0 fu _ (by omega) (by have := p2s h.1; omega) (Or.inl ⟨rfl, rfl⟩)
theorem cl15_loop {lv on sn : Nat} {a b c : Int32} {fu : Nat} : ∀ (k i n : Nat) (M : xM), i + k = 1024 → k < n → SV M R sn → OV M R on → M 1 0 = nI lv → M 1 9 = a → M 1 10 = b → M 1 11 = c → (∀ j, j < i → M 15 j = 0) →
    ∃ M', F_X0_sweep_b25 fu n (nI i) M = F_X0_sweep_b49 fu fu 0 M' ∧ SV M' R sn ∧ OV M' R on ∧ M' 1 0 = nI lv ∧ M' 1 9 = a ∧ M' 1 10 = b ∧ M' 1 11 = c ∧ (∀ j, j < 1024 → M' 15 j = 0) := by
  intro k
  induction k with
  | zero =>
    intro i n M hi hn h1 h2 h3 h4 h5 h6 h7
    obtain ⟨n, rfl⟩ : ∃ z, n = z + 1 := ⟨n - 1, by omega⟩
    obtain rfl : i = 1024 := by omega
    rw [F_X0_sweep_b25, if_pos (show Int32.ofNat 1024 ≤ nI 1024 from nI_le (Nat.le_refl 1024) (by decide))]
    exact ⟨M, rfl, h1, h2, h3, h4, h5, h6, h7⟩
  | succ k ih =>
    intro i n M hi hn h1 h2 h3 h4 h5 h6 h7
    obtain ⟨n, rfl⟩ : ∃ z, n = z + 1 := ⟨n - 1, by omega⟩
    rw [F_X0_sweep_b25, if_neg (show ¬ Int32.ofNat 1024 ≤ nI i from (nI_ge (by omega) (by omega) : ¬ nI 1024 ≤ nI i)), if_neg (idx_no (show i < 1024 by omega) (by decide)), nI_clamp (by omega), add1]
    refine ih (i + 1) n (xset M 15 i 0) (by omega) (by omega) h1 h2 h3 h4 h5 h6 fun j hj => ?_
    by_cases e : j = i
    · subst e
      simp [xset]
    · simp [xset, e, h7 j (by omega)]
theorem fst_stay {p : Nat → Bool} {i : Nat} (h : ¬ fstB p i = -1) : ∀ k, fstB p (i + k) = fstB p i := by
  intro k
  induction k with
  | zero => rfl
  | succ k ih => rw [show i + (k + 1) = (i + k) + 1 from rfl, fstB, ih, if_neg h]
theorem sw_loop {lv on sn : Nat} (hl : lv ≤ 16) {fu : Nat} (hfu : 70000 ≤ fu) : ∀ (k i n : Nat) (M : xM), i + k = 2 ^ lv → k < n → SV M R sn → OV M R on → M 1 0 = nI lv → M 1 9 = nI (cntB (letB R sn) i) → M 1 10 = fstB (beatB R sn on) i → M 1 11 = fstB (barB R sn on) i → (∀ j, j < 1024 → M 15 j = if hitB R sn i j = true then 1 else 0) →
    ∃ M', F_X0_sweep_b49 fu n (nI i) M = some M' ∧ M' 1 8 = 0 ∧ M' 1 9 = nI (cntB (letB R sn) (2 ^ lv)) ∧ M' 1 10 = fstB (beatB R sn on) (2 ^ lv) ∧ M' 1 11 = fstB (barB R sn on) (2 ^ lv) ∧ M' 1 12 = bst (ndB R sn (2 ^ lv)) (2 ^ sn) := by
  have hb := p2b hl
  have hp := p2p lv
  intro k
  induction k with
  | zero =>
    intro i n M hi hn h1 h2 h3 h4 h5 h6 h7
    obtain ⟨n, rfl⟩ : ∃ z, n = z + 1 := ⟨n - 1, by omega⟩
    obtain rfl : i = 2 ^ lv := by omega
    rw [F_X0_sweep_b49, h3, all_eq hl, if_pos ((dec_ge (by omega) (by omega)).mpr (by omega)), fwC h1 h7 hfu]
    exact ⟨_, rfl, by simp [xset], h4, h5, h6, by simp [xset]⟩
  | succ k ih =>
    intro i n M hi hn h1 h2 h3 h4 h5 h6 h7
    obtain ⟨n, rfl⟩ : ∃ z, n = z + 1 := ⟨n - 1, by omega⟩
    obtain ⟨a, ha, ea⟩ := agN R (nI i) 0 sn h1.1
    have hs := p2s h1.1
    have ha2 : a < 1024 := by omega
    rw [F_X0_sweep_b49, h3, all_eq hl, if_neg (fun z => by have := (dec_ge (n := 2 ^ lv) (j := i) (by omega) (by omega)).mp z; omega), agC h1 _ _ hfu]
    simp only [Option.bind_some]
    rw [lwC h2 _ hfu]
    simp only [Option.bind_some]
    rw [ea, put_ok ha2 (by decide)]
    simp only [Option.bind_some, F_X0_sweep_b96, F_X0_sweep_b117, F_X0_sweep_b138, add1, ite10]
    have h15 : ∀ j, j < 1024 → (xset M 15 a 1) 15 j = if hitB R sn (i + 1) j = true then 1 else 0 := by
      intro j hj
      rw [hitB, ea]
      by_cases e : j = a
      · subst e
        simp [xset]
      · have e2 : ¬ nI a = nI j := fun z => e ((nI_eq (by omega) (by omega)).mp z).symm
        rw [decide_eq_false e2, Bool.or_false, ← h7 j hj]
        simp [xset, e]
    have eb : ∀ p, fstB p (i + 1) = if fstB p i = -1 then (if p i = true then nI i else -1) else fstB p i := fun p => rfl
    by_cases c1 : nI a = 0
    · have l1 : letB R sn i = true := by
        unfold letB
        rw [ea]
        exact decide_eq_true c1
      have l2 : beatB R sn on i = !decide (lawP R (nI i) on) := by
        unfold beatB
        rw [ea, decide_eq_true c1, Bool.true_and]
      have l3 : barB R sn on i = false := by
        unfold barB
        rw [ea, decide_eq_true c1]
        rfl
      have g4 : nI (cntB (letB R sn) i) + 1 = nI (cntB (letB R sn) (i + 1)) := by
        rw [cntB, l1, if_pos rfl, add1]
      have g6 : M 1 11 = fstB (barB R sn on) (i + 1) := by
        rw [eb, l3, h6]
        by_cases z : fstB (barB R sn on) i = -1
        · rw [if_pos z, if_neg (by decide), z]
        · rw [if_neg z]
      rw [if_pos c1, if_pos c1, if_pos c1, show (xset M 15 a 1) 1 9 = nI (cntB (letB R sn) i) from h4, g4]
      by_cases c2 : lawP R (nI i) on
      · rw [if_neg (fun z => z c2)]
        have g5 : M 1 10 = fstB (beatB R sn on) (i + 1) := by
          rw [eb, l2, decide_eq_true c2, h5]
          by_cases z : fstB (beatB R sn on) i = -1
          · rw [if_pos z, if_neg (by decide), z]
          · rw [if_neg z]
        rw [if_pos c1]
        exact ih (i + 1) n (xset (xset M 15 a 1) 1 9 (nI (cntB (letB R sn) (i + 1)))) (by omega) (by omega) h1 h2 h3 (by simp [xset]) g5 g6 h15
      · rw [if_pos c2]
        by_cases c3 : M 1 10 = -1
        · rw [if_pos (show (xset (xset M 15 a 1) 1 9 (nI (cntB (letB R sn) (i + 1)))) 1 10 = -1 from c3)]
          refine ih (i + 1) n _ (by omega) (by omega) h1 h2 h3 (by simp [xset]) ?_ g6 h15
          rw [eb, l2, decide_eq_false c2, ← h5, c3, if_pos rfl]
          simp [xset]
        · rw [if_neg (show ¬ (xset (xset M 15 a 1) 1 9 (nI (cntB (letB R sn) (i + 1)))) 1 10 = -1 from c3)]
          rw [if_pos c1]
          refine ih (i + 1) n (xset (xset M 15 a 1) 1 9 (nI (cntB (letB R sn) (i + 1)))) (by omega) (by omega) h1 h2 h3 (by simp [xset]) ?_ g6 h15
          show M 1 10 = _
          rw [eb, ← h5, if_neg c3]
    · have l1 : letB R sn i = false := by
        unfold letB
        rw [ea]
        exact decide_eq_false c1
      have l2 : beatB R sn on i = false := by
        unfold beatB
        rw [ea, decide_eq_false c1, Bool.false_and]
      have l3 : barB R sn on i = decide (lawP R (nI i) on) := by
        unfold barB
        rw [ea, decide_eq_false c1]
        rfl
      have g4 : M 1 9 = nI (cntB (letB R sn) (i + 1)) := by
        rw [cntB, l1, if_neg (by decide), h4]
        rfl
      have g5 : M 1 10 = fstB (beatB R sn on) (i + 1) := by
        rw [eb, l2, h5]
        by_cases z : fstB (beatB R sn on) i = -1
        · rw [if_pos z, if_neg (by decide), z]
        · rw [if_neg z]
      rw [if_neg c1, if_neg c1, if_neg c1]
      by_cases c2 : lawP R (nI i) on
      · rw [if_neg (fun z => z c2)]
        by_cases c3 : M 1 11 = -1
        · rw [if_pos (show (xset M 15 a 1) 1 11 = -1 from c3)]
          refine ih (i + 1) n _ (by omega) (by omega) h1 h2 h3 g4 g5 ?_ h15
          rw [eb, l3, decide_eq_true c2, ← h6, c3, if_pos rfl, if_pos rfl]
          simp [xset]
        · rw [if_neg (show ¬ (xset M 15 a 1) 1 11 = -1 from c3)]
          refine ih (i + 1) n _ (by omega) (by omega) h1 h2 h3 g4 g5 ?_ h15
          show M 1 11 = _
          rw [eb, ← h6, if_neg c3]
      · rw [if_pos c2]
        refine ih (i + 1) n _ (by omega) (by omega) h1 h2 h3 g4 g5 ?_ h15
        show M 1 11 = _
        rw [eb, l3, decide_eq_false c2, h6]
        by_cases z : fstB (barB R sn on) i = -1
        · rw [if_pos z, if_neg (by decide), z]
        · rw [if_neg z]
theorem sweep_ok {fu : Nat} (hfu : 70000 ≤ fu) (hN : RN C R) (hP : RP C R) (hO : RO C R) (hB : RB C R) : ∃ C', F_X0_sweep fu C = some C' ∧ RB C' R ∧ C' 1 8 = 0 := by
  obtain ⟨lv, on, sn, ln, mn, tn, tl, kn, ⟨b1, b2, b3, b4, b5, b6, b7, b8, b9⟩, ⟨c1, c2, c3, c4, c5, c6, c7, c8⟩, ⟨r1, r2, r3, r4, r5, r6, r7, r8⟩⟩ := hN
  unfold F_X0_sweep
  by_cases h : C 1 8 = 0
  · rw [if_pos h]
    exact ⟨C, rfl, hB, h⟩
  rw [if_neg h]
  obtain ⟨M', e1, s1, s2, s3, s4, s5, s6, s7⟩ := cl15_loop (R := R) (lv := lv) (on := on) (sn := sn) (a := 0) (b := -1) (c := -1) (fu := fu) 1024 0 fu (xset (xset (xset C 1 9 0) 1 10 (-1)) 1 11 (-1)) (by omega) (by omega) ⟨b4, c3, r3, hP⟩ ⟨b3, c2, r2, hO⟩ c1 (by simp [xset]) (by simp [xset]) (by simp [xset]) (fun j hj => absurd hj (by omega))
  have hb := p2b b2
  obtain ⟨C', e2, t1, t2, t3, t4, t5⟩ := sw_loop (R := R) (lv := lv) (on := on) (sn := sn) b2 hfu (2 ^ lv) 0 fu M' (by omega) (by omega) s1 s2 s3 s4 s5 s6 (fun j hj => by rw [s7 j hj]; rfl)
  refine ⟨C', ?_, ⟨lv, on, sn, b2, b3, b4, r1, r2, r3, Or.inr ⟨t1, t2, t3, t4, t5⟩⟩, t1⟩
  rw [← e2]
  exact e1
end SWEEP2
