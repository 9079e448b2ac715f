/-! papers: how far a reading is from a name -/
section DIST
def ec (x y : Int32) : Nat := if x = 46 then 0 else if x = y then 0 else 1
def edr (prev : Nat → Nat) (x : Int32) (b : Nat → Int32) (z : Nat) : Nat → Nat
  | 0 => z
  | j + 1 => min (prev j + ec x (b j)) (min (prev (j + 1)) (edr prev x b z j) + 1)
def ed (a b : Nat → Int32) : Nat → Nat → Nat
  | 0 => fun j => j
  | i + 1 => edr (ed a b i) (a i) b (i + 1)
theorem ed_s (a b : Nat → Int32) (i j : Nat) : ed a b (i + 1) (j + 1) = min (ed a b i j + ec (a i) (b j)) (min (ed a b i (j + 1)) (ed a b (i + 1) j) + 1) := rfl
theorem ed_le (a b : Nat → Int32) : ∀ i j, ed a b i j ≤ i + j := by
  intro i
  induction i with
  | zero =>
    intro j
    show j ≤ 0 + j
    omega
  | succ i ih =>
    intro j
    cases j with
    | zero => exact Nat.le_refl _
    | succ j =>
      rw [ed_s]
      have := ih (j + 1)
      omega
theorem ed_ext {a b a' b' : Nat → Int32} : ∀ i, (∀ k, k < i → a k = a' k) → ∀ j, (∀ k, k < j → b k = b' k) → ed a b i j = ed a' b' i j := by
  intro i
  induction i with
  | zero => exact fun _ _ _ => rfl
  | succ i ih =>
    intro ha j
    induction j with
    | zero => exact fun _ => rfl
    | succ j ih2 =>
      intro hb
      rw [ed_s, ed_s, ih (fun k hk => ha k (by omega)) j (fun k hk => hb k (by omega)), ih (fun k hk => ha k (by omega)) (j + 1) hb, ih2 (fun k hk => hb k (by omega)), ha i (by omega), hb j (by omega)]
theorem jmin_nI {a b : Nat} (ha : a < 2 ^ 31) (hb : b < 2 ^ 31) : jmin (nI a) (nI b) = nI (min a b) := by
  unfold jmin
  by_cases h : b < a
  · rw [if_pos ((nI_ltI hb ha).mpr h), Nat.min_eq_right (by omega)]
  · rw [if_neg (fun z => h ((nI_ltI hb ha).mp z)), Nat.min_eq_left (by omega)]
theorem ix8 (q i : Nat) : (8 : Int32) * nI q + nI i = nI (8 * q + i) := (congrArg (· + nI i) (pk_mul 8 q)).trans (nI_add _ _)
theorem ix8' (q i : Nat) : nI q * (8 : Int32) + nI i = nI (q * 8 + i) := (congrArg (· + nI i) (pk_mul q 8)).trans (nI_add _ _)
theorem ix9 (q i : Nat) : (9 : Int32) * nI q + nI i = nI (9 * q + i) := (congrArg (· + nI i) (pk_mul 9 q)).trans (nI_add _ _)
theorem sb1 (a i : Nat) : nI (a + (i + 1)) - 1 = nI (a + i) := sub1 (by omega)
theorem sb1' (i : Nat) : nI (i + 1) - 1 = nI i := sub1 (by omega)
variable {C R : xM} {fu r n q LR LN : Nat}
theorem me_ok (hfu : 70000 ≤ fu) (hr : r < 120) (hn : n < 8) (hLR : LR ≤ 8) (hLN : LN ≤ 8) (c49 : C 49 r = nI LR) (c47 : C 47 n = nI LN) : ∃ C', F_X6_measure fu (nI r) (nI n) C = some C' ∧ ∀ k, C' 50 k = if k = r * 8 + n then nI (ed (fun i => C 48 (r * 8 + i)) (fun j => C 46 (n * 8 + j)) LR LN) else C 50 k := by
  generalize ha : (fun i => C 48 (r * 8 + i)) = a
  generalize hb : (fun j => C 46 (n * 8 + j)) = b
  have row : ∀ k i j n1 (kc : Int32 → Int32 → xM → Option xM) M, i < LR → j + k = LN → k < n1 → (∀ k j, k ≠ 51 → M k j = C k j) → (∀ t, t ≤ j → M 51 t = nI (ed a b (i + 1) t)) → (∀ t, j < t → t ≤ LN → M 51 t = nI (ed a b i t)) → ∃ M', F_X6_measure_b92 fu (nI r) (nI n) kc n1 (nI LN) (nI (i + 1)) (a i) (nI (ed a b i j)) (nI (j + 1)) M = kc (nI LN) (nI (i + 1 + 1)) M' ∧ (∀ k j, k ≠ 51 → M' k j = C k j) ∧ ∀ t, t ≤ LN → M' 51 t = nI (ed a b (i + 1) t) := by
    intro k
    induction k with
    | zero =>
      intro i j n1 kc M hi hk hn1 hS h1 h2
      obtain ⟨n1, rfl⟩ : ∃ z, n1 = z + 1 := ⟨n1 - 1, by omega⟩
      rw [F_X6_measure_b92, if_pos (nI_lt (by omega) (by omega)), add1]
      exact ⟨M, rfl, hS, fun t ht => h1 t (by omega)⟩
    | succ k ih =>
      intro i j n1 kc M hi hk hn1 hS h1 h2
      obtain ⟨n1, rfl⟩ : ∃ z, n1 = z + 1 := ⟨n1 - 1, by omega⟩
      have e1 : P_X1_at 46 64 (((nI n * (8 : Int32)) + nI (j + 1)) - (1 : Int32)) M = b j := by
        rw [ix8', sb1, at_ok (by omega) (by decide), hS 46 _ (by decide), ← hb]
      have l1 := ed_le a b i j
      have l2 := ed_le a b i (j + 1)
      have l3 := ed_le a b (i + 1) j
      have hcl : ec (a i) (b j) ≤ 1 := by
        unfold ec
        split
        · omega
        · split <;> omega
      have key : F_X6_measure_b92 fu (nI r) (nI n) kc (n1 + 1) (nI LN) (nI (i + 1)) (a i) (nI (ed a b i j)) (nI (j + 1)) M = F_X6_measure_b145 fu (nI r) (nI n) kc (F_X6_measure_b92 fu (nI r) (nI n) kc n1) (nI LN) (nI (i + 1)) (a i) (nI (j + 1)) (nI (ec (a i) (b j))) (nI (ed a b i j)) M := by
        rw [F_X6_measure_b92, if_neg (nI_nlt (by omega) (by omega)), e1]
        unfold F_X6_measure_b126 F_X6_measure_b131 ec
        by_cases g1 : a i = 46
        · rw [if_pos g1, if_pos g1, if_neg (by decide)]
          rfl
        · rw [if_neg g1, if_neg g1]
          by_cases g2 : a i = b j
          · rw [if_pos g2, if_pos g2, if_neg (by decide)]
            rfl
          · rw [if_neg g2, if_neg g2, if_pos rfl]
            rfl
      have hv : jmin (nI (ed a b i j) + nI (ec (a i) (b j))) ((jmin (nI (ed a b i (j + 1))) (nI (ed a b (i + 1) j))) + (1 : Int32)) = nI (ed a b (i + 1) (j + 1)) := by
        rw [nI_add, jmin_nI (by omega) (by omega), add1, jmin_nI (by omega) (by omega), ed_s]
      rw [key, F_X6_measure_b145, sb1', at_ok (show j + 1 < 9 by omega) (by decide), at_ok (show j < 9 by omega) (by decide), h1 j (by omega), h2 (j + 1) (by omega) (by omega), hv, put_ok (show j + 1 < 9 by omega) (by decide)]
      simp only [Option.bind_some, add1]
      refine ih i (j + 1) n1 kc _ hi (by omega) (by omega) (fun k' j' hk' => ?_) (fun t ht => ?_) (fun t ht1 ht2 => ?_)
      · rw [xset_ne hk', hS k' j' hk']
      · by_cases e : t = j + 1
        · subst e
          simp [xset]
        · rw [show (xset M 51 (j + 1) (nI (ed a b (i + 1) (j + 1)))) 51 t = M 51 t by simp [xset, e]]
          exact h1 t (by omega)
      · rw [show (xset M 51 (j + 1) (nI (ed a b (i + 1) (j + 1)))) 51 t = M 51 t by simp [xset, show t ≠ j + 1 by omega]]
        exact h2 t (by omega) ht2
  have rows : ∀ k i n1 M, i + k = LR → k < n1 → (∀ k j, k ≠ 51 → M k j = C k j) → (∀ t, t ≤ LN → M 51 t = nI (ed a b i t)) → ∃ C', F_X6_measure_b38 fu (nI r) (nI n) n1 (nI LN) (nI (i + 1)) M = some C' ∧ ∀ k, C' 50 k = if k = r * 8 + n then nI (ed a b LR LN) else C 50 k := by
    intro k
    induction k with
    | zero =>
      intro i n1 M hk hn1 hS h1
      obtain ⟨n1, rfl⟩ : ∃ z, n1 = z + 1 := ⟨n1 - 1, by omega⟩
      obtain rfl : i = LR := by omega
      rw [F_X6_measure_b38, at_ok hr (by decide), hS 49 r (by decide), c49, if_pos (nI_lt (by omega) (by omega)), at_ok (show LN < 9 by omega) (by decide), h1 LN (Nat.le_refl _), ix8', put_ok (show r * 8 + n < 960 by omega) (by decide)]
      refine ⟨_, rfl, fun k => ?_⟩
      by_cases e : k = r * 8 + n
      · subst e
        rw [if_pos rfl]
        simp [xset]
      · rw [if_neg e, ← hS 50 k (by decide)]
        simp [xset, e]
    | succ k ih =>
      intro i n1 M hk hn1 hS h1
      obtain ⟨n1, rfl⟩ : ∃ z, n1 = z + 1 := ⟨n1 - 1, by omega⟩
      have e1 : P_X1_at 48 960 (((nI r * (8 : Int32)) + nI (i + 1)) - (1 : Int32)) M = a i := by
        rw [ix8', sb1, at_ok (by omega) (by decide), hS 48 _ (by decide), ← ha]
      have p0 : F_X1_put 51 9 0 (nI (i + 1)) M = some (xset M 51 0 (nI (i + 1))) := put_ok (j := 0) (by decide) (by decide)
      have a0 : P_X1_at 51 9 0 M = nI (ed a b i 0) := (at_ok (j := 0) (by decide) (by decide)).trans (h1 0 (by omega))
      obtain ⟨M', e, hS', h'⟩ := row LN i 0 fu (F_X6_measure_b38 fu (nI r) (nI n) n1) (xset M 51 0 (nI (i + 1))) (by omega) (by omega) (by omega) (fun k' j' hk' => by rw [xset_ne hk', hS k' j' hk']) (fun t ht => by
        obtain rfl : t = 0 := by omega
        simp [xset]
        rfl) (fun t ht1 ht2 => by
        rw [show (xset M 51 0 (nI (i + 1))) 51 t = M 51 t by simp [xset, show t ≠ 0 by omega]]
        exact h1 t ht2)
      rw [F_X6_measure_b38, at_ok hr (by decide), hS 49 r (by decide), c49, if_neg (nI_nlt (by omega) (by omega)), e1, p0, a0]
      simp only [Option.bind_some]
      rw [show F_X6_measure_b92 fu (nI r) (nI n) (F_X6_measure_b38 fu (nI r) (nI n) n1) fu (nI LN) (nI (i + 1)) (a i) (nI (ed a b i 0)) 1 (xset M 51 0 (nI (i + 1))) = _ from e]
      exact ih (i + 1) n1 M' (by omega) (by omega) hS' h'
  have ini : ∀ k i n1 M, i + k = LN + 1 → k < n1 → (∀ k j, k ≠ 51 → M k j = C k j) → (∀ t, t < i → M 51 t = nI t) → ∃ C', F_X6_measure_b12 fu (nI r) (nI n) n1 (nI LN) (nI i) M = some C' ∧ ∀ k, C' 50 k = if k = r * 8 + n then nI (ed a b LR LN) else C 50 k := by
    intro k
    induction k with
    | zero =>
      intro i n1 M hk hn1 hS h1
      obtain ⟨n1, rfl⟩ : ∃ z, n1 = z + 1 := ⟨n1 - 1, by omega⟩
      rw [F_X6_measure_b12, if_pos (nI_lt (by omega) (by omega))]
      exact rows LR 0 fu M (by omega) (by omega) hS (fun t ht => h1 t (by omega))
    | succ k ih =>
      intro i n1 M hk hn1 hS h1
      obtain ⟨n1, rfl⟩ : ∃ z, n1 = z + 1 := ⟨n1 - 1, by omega⟩
      rw [F_X6_measure_b12, if_neg (nI_nlt (by omega) (by omega)), put_ok (show i < 9 by omega) (by decide)]
      simp only [Option.bind_some, add1]
      refine ih (i + 1) n1 _ (by omega) (by omega) (fun k' j' hk' => by rw [xset_ne hk', hS k' j' hk']) (fun t ht => ?_)
      by_cases e : t = i
      · subst e
        simp [xset]
      · rw [show (xset M 51 i (nI i)) 51 t = M 51 t by simp [xset, e]]
        exact h1 t (by omega)
  rw [F_X6_measure, at_ok hn (by decide), c47]
  exact ini (LN + 1) 0 fu C (by omega) (by omega) (fun _ _ _ => rfl) (fun t ht => absurd ht (by omega))
theorem fa_ok (hfu : 70000 ≤ fu) (hq : q < 120) (hn : n < 8) (hLR : LR ≤ 8) (hLN : LN ≤ 8) (r34 : R 34 q = nI LR) (r33 : R 33 n = nI LN) : ∃ R', F_X12_farOf fu (nI q) (nI n) R = some (nI (ed (fun i => R 32 (8 * q + i)) (fun j => R 31 (8 * n + j)) LR LN), R') ∧ ∀ k j, k ≠ 35 → R' k j = R k j := by
  generalize ha : (fun i => R 32 (8 * q + i)) = a
  generalize hb : (fun j => R 31 (8 * n + j)) = b
  have row : ∀ k i j n1 (k2 : Int32 → xM → Option (Int32 × xM)) M, i ≤ LR → j + k = LN + 1 → k < n1 → (∀ k j, k ≠ 35 → M k j = R k j) → (∀ i' t, i' < i → t ≤ LN → M 35 (9 * i' + t) = nI (ed a b i' t)) → (∀ t, t < j → M 35 (9 * i + t) = nI (ed a b i t)) → ∃ M', F_X12_farOf_b15 fu (nI q) (nI n) k2 n1 (nI i) (nI j) M = k2 (nI (i + 1)) M' ∧ (∀ k j, k ≠ 35 → M' k j = R k j) ∧ ∀ i' t, i' < i + 1 → t ≤ LN → M' 35 (9 * i' + t) = nI (ed a b i' t) := by
    intro k
    induction k with
    | zero =>
      intro i j n1 k2 M hi hk hn1 hS h1 h2
      obtain ⟨n1, rfl⟩ : ∃ z, n1 = z + 1 := ⟨n1 - 1, by omega⟩
      rw [F_X12_farOf_b15, if_neg (idx_no hn (by decide)), nI_clamp (by omega), hS 33 n (by decide), r33, if_pos (nI_lt (by omega) (by omega)), add1]
      refine ⟨M, rfl, hS, fun i' t h3 h4 => ?_⟩
      by_cases e : i' = i
      · subst e
        exact h2 t (by omega)
      · exact h1 i' t (by omega) h4
    | succ k ih =>
      intro i j n1 k2 M hi hk hn1 hS h1 h2
      obtain ⟨n1, rfl⟩ : ∃ z, n1 = z + 1 := ⟨n1 - 1, by omega⟩
      have key : F_X12_farOf_b15 fu (nI q) (nI n) k2 (n1 + 1) (nI i) (nI j) M = F_X12_farOf_b164 fu (nI q) (nI n) k2 (F_X12_farOf_b15 fu (nI q) (nI n) k2 n1) (nI i) (nI j) (nI (ed a b i j)) M := by
        rw [F_X12_farOf_b15, if_neg (idx_no hn (by decide)), nI_clamp (by omega), hS 33 n (by decide), r33, if_neg (nI_nlt (by omega) (by omega))]
        cases i with
        | zero =>
          rw [if_pos (show nI 0 = 0 from rfl), F_X12_farOf_b36, if_pos (by decide)]
          rfl
        | succ i =>
          rw [if_neg (show ¬ nI (i + 1) = 0 from fun z => by
            have := (nI_eq (a := i + 1) (b := 0) (by omega) (by decide)).mp z
            omega), F_X12_farOf_b36, if_neg (show ¬ nI (i + 1) ≤ 0 from nI_ge (a := 0) (by omega) (by omega))]
          cases j with
          | zero =>
            rw [if_pos (by decide)]
            rfl
          | succ j =>
            have l1 := ed_le a b i j
            have l2 := ed_le a b i (j + 1)
            have l3 := ed_le a b (i + 1) j
            have hcl : ec (a i) (b j) ≤ 1 := by
              unfold ec
              split
              · omega
              · split <;> omega
            have hv : jmin (nI (ed a b i j) + nI (ec (a i) (b j))) ((1 : Int32) + (jmin (nI (ed a b i (j + 1))) (nI (ed a b (i + 1) j)))) = nI (ed a b (i + 1) (j + 1)) := by
              rw [nI_add, jmin_nI (by omega) (by omega), Int32.add_comm 1, add1, jmin_nI (by omega) (by omega), ed_s]
            have last : F_X12_farOf_b121 fu (nI q) (nI n) k2 (F_X12_farOf_b15 fu (nI q) (nI n) k2 n1) (nI (i + 1)) (nI (j + 1)) (nI (ec (a i) (b j))) (nI (ed a b i j)) M = F_X12_farOf_b164 fu (nI q) (nI n) k2 (F_X12_farOf_b15 fu (nI q) (nI n) k2 n1) (nI (i + 1)) (nI (j + 1)) (nI (ed a b (i + 1) (j + 1))) M := by
              rw [F_X12_farOf_b121, sb1', ix9, ix9, sb1, if_neg (idx_no (by omega) (by decide)), if_neg (idx_no (by omega) (by decide)), nI_clamp (by omega), nI_clamp (by omega), h1 i (j + 1) (by omega) (by omega), h2 j (by omega), hv]
            have d93 : ∀ s : Int32, F_X12_farOf_b93 fu (nI q) (nI n) k2 (F_X12_farOf_b15 fu (nI q) (nI n) k2 n1) (nI (i + 1)) (nI (j + 1)) s M = if s = 0 then F_X12_farOf_b121 fu (nI q) (nI n) k2 (F_X12_farOf_b15 fu (nI q) (nI n) k2 n1) (nI (i + 1)) (nI (j + 1)) 1 (nI (ed a b i j)) M else F_X12_farOf_b121 fu (nI q) (nI n) k2 (F_X12_farOf_b15 fu (nI q) (nI n) k2 n1) (nI (i + 1)) (nI (j + 1)) 0 (nI (ed a b i j)) M := by
              intro s
              rw [F_X12_farOf_b93, sb1', ix9, sb1, if_neg (idx_no (by omega) (by decide)), nI_clamp (by omega), h1 i j (by omega) (by omega)]
            rw [if_neg (show ¬ nI (j + 1) ≤ 0 from nI_ge (a := 0) (by omega) (by omega)), ix8, ix8, sb1, sb1, if_neg (idx_no (by omega) (by decide)), if_neg (idx_no (by omega) (by decide)), nI_clamp (by omega), nI_clamp (by omega), hS 32 _ (by decide), hS 31 _ (by decide), show R 32 (8 * q + i) = a i by rw [← ha], show R 31 (8 * n + j) = b j by rw [← hb], ← last, F_X12_farOf_b88, (d93 1).trans (if_neg (by decide)), (d93 0).trans (if_pos rfl)]
            unfold ec
            by_cases g1 : a i = 46
            · rw [if_pos g1, if_pos g1]
              rfl
            · rw [if_neg g1, if_neg g1]
              by_cases g2 : a i = b j
              · rw [if_pos g2, if_pos g2]
                rfl
              · rw [if_neg g2, if_neg g2]
                rfl
      rw [key, F_X12_farOf_b164, ix9, if_neg (idx_no (by omega) (by decide)), nI_clamp (by omega), add1]
      refine ih i (j + 1) n1 k2 _ hi (by omega) (by omega) (fun k' j' hk' => by rw [xset_ne hk', hS k' j' hk']) (fun i' t h3 h4 => ?_) (fun t ht => ?_)
      · rw [show (xset M 35 (9 * i + j) (nI (ed a b i j))) 35 (9 * i' + t) = M 35 (9 * i' + t) by simp [xset, show 9 * i' + t ≠ 9 * i + j by omega]]
        exact h1 i' t h3 h4
      · by_cases e : t = j
        · subst e
          simp [xset]
        · rw [show (xset M 35 (9 * i + j) (nI (ed a b i j))) 35 (9 * i + t) = M 35 (9 * i + t) by simp [xset, e]]
          exact h2 t (by omega)
  have rows : ∀ k i n1 M, i + k = LR + 1 → k < n1 → (∀ k j, k ≠ 35 → M k j = R k j) → (∀ i' t, i' < i → t ≤ LN → M 35 (9 * i' + t) = nI (ed a b i' t)) → ∃ R', F_X12_farOf_b2 fu (nI q) (nI n) n1 (nI i) M = some (nI (ed a b LR LN), R') ∧ ∀ k j, k ≠ 35 → R' k j = R k j := by
    intro k
    induction k with
    | zero =>
      intro i n1 M hk hn1 hS h1
      obtain ⟨n1, rfl⟩ : ∃ z, n1 = z + 1 := ⟨n1 - 1, by omega⟩
      rw [F_X12_farOf_b2, if_neg (idx_no hq (by decide)), if_neg (idx_no hq (by decide)), if_neg (idx_no hn (by decide)), nI_clamp (by omega), nI_clamp (by omega), hS 34 q (by decide), hS 33 n (by decide), r34, r33, if_pos (nI_lt (by omega) (by omega)), ix9, if_neg (idx_no (by omega) (by decide)), nI_clamp (by omega), h1 LR LN (by omega) (Nat.le_refl _)]
      exact ⟨M, rfl, hS⟩
    | succ k ih =>
      intro i n1 M hk hn1 hS h1
      obtain ⟨n1, rfl⟩ : ∃ z, n1 = z + 1 := ⟨n1 - 1, by omega⟩
      obtain ⟨M', e, hS', h'⟩ := row (LN + 1) i 0 fu (F_X12_farOf_b2 fu (nI q) (nI n) n1) M (by omega) (by omega) (by omega) hS h1 (fun t ht => absurd ht (by omega))
      rw [F_X12_farOf_b2, if_neg (idx_no hq (by decide)), nI_clamp (by omega), hS 34 q (by decide), r34, if_neg (nI_nlt (by omega) (by omega)), show F_X12_farOf_b15 fu (nI q) (nI n) (F_X12_farOf_b2 fu (nI q) (nI n) n1) fu (nI i) 0 M = _ from e]
      exact ih (i + 1) n1 M' (by omega) (by omega) hS' h'
  exact rows (LR + 1) 0 fu R (by omega) (by omega) (fun _ _ _ => rfl) (fun i' t h => absurd h (by omega))
end DIST
