/-! papers: known -/
section KNOWN
variable {C R M : xM} {fu kn lim tl : Nat}
/-- all readings measured against one name -/
theorem an_ok (hfu : 70000 ≤ fu) {S : xM} (hkn : kn < 8) (s90 : S 9 0 = nI kn) {LN : Nat} (hLN : LN ≤ 8) (s47 : S 47 kn = nI LN) (h49 : ∀ r, r < 120 → ∃ L : Nat, L ≤ 8 ∧ S 49 r = nI L) : ∃ M, F_X6_addName_b112 fu fu 0 S = some (nI kn, xset M 9 0 (nI (kn + 1))) ∧ (∀ k j, k ≠ 50 → k ≠ 51 → M k j = S k j) ∧ (∀ r, r < 120 → M 50 (r * 8 + kn) = nI (ed (fun i => S 48 (r * 8 + i)) (fun j => S 46 (kn * 8 + j)) (S 49 r).toNatClampNeg LN)) ∧ ∀ r n, n < 8 → n ≠ kn → M 50 (r * 8 + n) = S 50 (r * 8 + n) := by
  have loop : ∀ (k i n : Nat) (M : xM), i + k = 120 → k < n → (∀ k j, k ≠ 50 → k ≠ 51 → M k j = S k j) → (∀ r, r < i → M 50 (r * 8 + kn) = nI (ed (fun i => S 48 (r * 8 + i)) (fun j => S 46 (kn * 8 + j)) (S 49 r).toNatClampNeg LN)) → (∀ r n, n < 8 → n ≠ kn → M 50 (r * 8 + n) = S 50 (r * 8 + n)) → ∃ M', F_X6_addName_b112 fu n (nI i) M = some (nI kn, xset M' 9 0 (nI (kn + 1))) ∧ (∀ k j, k ≠ 50 → k ≠ 51 → M' k j = S k j) ∧ (∀ r, r < 120 → M' 50 (r * 8 + kn) = nI (ed (fun i => S 48 (r * 8 + i)) (fun j => S 46 (kn * 8 + j)) (S 49 r).toNatClampNeg LN)) ∧ ∀ r n, n < 8 → n ≠ kn → M' 50 (r * 8 + n) = S 50 (r * 8 + n) := by
    intro k
    induction k with
    | zero =>
      intro i n M hk hn hS h1 h2
      obtain ⟨n, rfl⟩ : ∃ z, n = z + 1 := ⟨n - 1, by omega⟩
      obtain rfl : i = 120 := by omega
      refine ⟨M, ?_, hS, h1, h2⟩
      rw [F_X6_addName_b112, if_pos (by decide), hS 9 0 (by decide) (by decide), s90, add1]
    | succ k ih =>
      intro i n M hk hn hS h1 h2
      obtain ⟨n, rfl⟩ : ∃ z, n = z + 1 := ⟨n - 1, by omega⟩
      have m90 : M 9 0 = nI kn := (hS 9 0 (by decide) (by decide)).trans s90
      obtain ⟨L, l1, l2⟩ := h49 i (by omega)
      obtain ⟨M1, e1, e2⟩ := me_ok (C := M) hfu (show i < 120 by omega) hkn l1 hLN ((hS 49 i (by decide) (by decide)).trans l2) ((hS 47 kn (by decide) (by decide)).trans s47)
      have a1 : M 48 = S 48 := funext fun j => hS 48 j (by decide) (by decide)
      have a2 : M 46 = S 46 := funext fun j => hS 46 j (by decide) (by decide)
      rw [a1, a2] at e2
      have f1 : xfr wr_X6_measure M M1 := fr_X6_measure _ _ _ _ _ e1
      rw [F_X6_addName_b112, if_neg (show ¬ (120 : Int32) ≤ nI i from nI_ge (b := 120) (by omega) (by decide)), m90, e1]
      simp only [Option.bind_some, add1]
      refine ih (i + 1) n M1 (by omega) (by omega) (fun k j hk1 hk2 => ?_) (fun r hr => ?_) (fun r m hm1 hm2 => ?_)
      · rw [f1 k j (by simp [xin, hk1.symm, hk2.symm]), hS k j hk1 hk2]
      · by_cases e : r = i
        · subst e
          rw [e2, if_pos rfl, l2, nI_clamp (by omega)]
        · rw [e2, if_neg (by omega)]
          exact h1 r (by omega)
      · rw [e2, if_neg (by omega)]
        exact h2 r m hm1 hm2
  exact loop 120 0 fu S (by omega) (by omega) (fun _ _ _ _ => rfl) (fun r hr => absurd hr (by omega)) (fun _ _ _ _ => rfl)
/-- the reference's copy of a name -/
theorem kcp_ok (hfu : 70000 ≤ fu) {S : xM} (hkn : kn < 8) (r58 : S 0 58 = nI kn) (r15 : S 0 15 = nI tl) (htl : tl ≤ 8) (hb : ∀ i, i < tl → vp_nar .byte (S 7 i) = S 7 i) : ∃ M, F_X12_known_b52 fu fu 0 S = some (nI kn, xset (xset (xset M 33 kn (nI tl)) 0 15 0) 0 58 (nI (kn + 1))) ∧ (∀ k j, k ≠ 31 → M k j = S k j) ∧ ∀ j, M 31 j = if 8 * kn ≤ j ∧ j < 8 * kn + tl then S 7 (j - 8 * kn) else S 31 j := by
  have loop : ∀ (k i n : Nat) (M : xM), i + k = tl → k < n → (∀ k j, k ≠ 31 → M k j = S k j) → (∀ j, M 31 j = if 8 * kn ≤ j ∧ j < 8 * kn + i then S 7 (j - 8 * kn) else S 31 j) → ∃ M', F_X12_known_b52 fu n (nI i) M = some (nI kn, xset (xset (xset M' 33 kn (nI tl)) 0 15 0) 0 58 (nI (kn + 1))) ∧ (∀ k j, k ≠ 31 → M' k j = S k j) ∧ ∀ j, M' 31 j = if 8 * kn ≤ j ∧ j < 8 * kn + tl then S 7 (j - 8 * kn) else S 31 j := by
    intro k
    induction k with
    | zero =>
      intro i n M hk hn hS h1
      obtain ⟨n, rfl⟩ : ∃ z, n = z + 1 := ⟨n - 1, by omega⟩
      obtain rfl : i = tl := by omega
      have m58 : M 0 58 = nI kn := (hS 0 58 (by decide)).trans r58
      have m15 : M 0 15 = nI i := (hS 0 15 (by decide)).trans r15
      refine ⟨M, ?_, hS, h1⟩
      rw [F_X12_known_b52, m15, if_pos (nI_le (Nat.le_refl _) (by omega)), m58, if_neg (idx_no (show kn < 8 by omega) (by decide)), nI_clamp (by omega)]
      have e : (xset (xset M 33 kn (nI i)) 0 15 0) 0 58 + 1 = nI (kn + 1) := by
        rw [show (xset (xset M 33 kn (nI i)) 0 15 0) 0 58 = nI kn from m58, add1]
      rw [e, show (xset (xset (xset M 33 kn (nI i)) 0 15 0) 0 58 (nI (kn + 1))) 0 58 = nI (kn + 1) by simp [xset], sb1']
    | succ k ih =>
      intro i n M hk hn hS h1
      obtain ⟨n, rfl⟩ : ∃ z, n = z + 1 := ⟨n - 1, by omega⟩
      have m58 : M 0 58 = nI kn := (hS 0 58 (by decide)).trans r58
      have m15 : M 0 15 = nI tl := (hS 0 15 (by decide)).trans r15
      rw [F_X12_known_b52, m15, m58, if_neg (show ¬ nI tl ≤ nI i from nI_ge (by omega) (by omega)), if_neg (idx_no (show i < 120 by omega) (by decide)), ix8, if_neg (idx_no (show 8 * kn + i < 64 by omega) (by decide)), nI_clamp (by omega), nI_clamp (by omega), hS 7 i (by decide), hb i (by omega), add1]
      refine ih (i + 1) n _ (by omega) (by omega) (fun k j hk1 => by rw [xset_ne hk1, hS k j hk1]) (fun j => ?_)
      by_cases e : j = 8 * kn + i
      · subst e
        rw [if_pos ⟨by omega, by omega⟩, Nat.add_sub_cancel_left]
        simp [xset]
      · rw [show (xset M 31 (8 * kn + i) (S 7 i)) 31 j = M 31 j by simp [xset, e], h1]
        by_cases z : 8 * kn ≤ j ∧ j < 8 * kn + i
        · rw [if_pos z, if_pos ⟨z.1, by omega⟩]
        · rw [if_neg z, if_neg (fun y => z ⟨y.1, by omega⟩)]
  exact loop tl 0 fu S (by omega) (by omega) (fun _ _ _ => rfl) (fun j => by rw [if_neg (by omega)])
/-- is the tape a name already known -/
theorem isn_ok (hfu : 70000 ≤ fu) {S : xM} (hK : RMk kn C S) (r15 : S 0 15 = nI tl) (htl : tl ≤ 8) {n : Nat} (hn : n < kn) : ∃ v, F_X12_isTapeName fu (nI n) S = some (v, S) ∧ ((v = 1 ∧ S 33 n = nI tl ∧ ∀ i, i < tl → S 31 (8 * n + i) = S 7 i) ∨ (v = 0 ∧ ¬ (S 33 n = nI tl ∧ ∀ i, i < tl → S 31 (8 * n + i) = S 7 i))) := by
  have hk8 := hK.1
  rw [F_X12_isTapeName, if_neg (idx_no (show n < 8 by omega) (by decide)), nI_clamp (by omega), r15]
  by_cases g : S 33 n = nI tl
  · rw [if_pos g]
    have loop : ∀ k i n1, i + k = tl → k < n1 → (∀ t, t < i → S 31 (8 * n + t) = S 7 t) → ∃ v, F_X12_isTapeName_b17 fu (nI n) n1 (nI i) S = some (v, S) ∧ ((v = 1 ∧ S 33 n = nI tl ∧ ∀ i, i < tl → S 31 (8 * n + i) = S 7 i) ∨ (v = 0 ∧ ¬ (S 33 n = nI tl ∧ ∀ i, i < tl → S 31 (8 * n + i) = S 7 i))) := by
      intro k
      induction k with
      | zero =>
        intro i n1 hk hn1 h
        obtain ⟨n1, rfl⟩ : ∃ z, n1 = z + 1 := ⟨n1 - 1, by omega⟩
        rw [F_X12_isTapeName_b17, r15, if_pos (nI_le (by omega) (by omega))]
        exact ⟨1, rfl, Or.inl ⟨rfl, g, fun t ht => h t (by omega)⟩⟩
      | succ k ih =>
        intro i n1 hk hn1 h
        obtain ⟨n1, rfl⟩ : ∃ z, n1 = z + 1 := ⟨n1 - 1, by omega⟩
        rw [F_X12_isTapeName_b17, r15, if_neg (show ¬ nI tl ≤ nI i from nI_ge (by omega) (by omega)), ix8, if_neg (idx_no (show 8 * n + i < 64 by omega) (by decide)), if_neg (idx_no (show i < 120 by omega) (by decide)), nI_clamp (by omega), nI_clamp (by omega), add1]
        by_cases e : S 31 (8 * n + i) = S 7 i
        · rw [if_pos e]
          refine ih (i + 1) n1 (by omega) (by omega) (fun t ht => ?_)
          by_cases z : t = i
          · subst z
            exact e
          · exact h t (by omega)
        · rw [if_neg e]
          exact ⟨0, rfl, Or.inr ⟨rfl, fun z => e (z.2 i (by omega))⟩⟩
    exact loop tl 0 fu (by omega) (by omega) (fun t ht => absurd ht (by omega))
  · rw [if_neg g]
    exact ⟨0, rfl, Or.inr ⟨rfl, fun z => g z.1⟩⟩
theorem op_known (hfu : 70000 ≤ fu) (hN : RN C R) (hT : RT C R) (hM : RM C R) : ∃ v C' R', F_X11_known fu C = some (v, C') ∧ F_X12_known fu R = some (v, R') ∧ RN C' R' ∧ RM C' R' := by
  have hN0 := hN
  obtain ⟨lv, on, sn, ln, mn, tn, tl, kn', ⟨b1, b2, b3, b4, b5, b6, b7, b8, b9⟩, ⟨c1, c2, c3, c4, c5, c6, c7, c8⟩, ⟨r1, r2, r3, r4, r5, r6, r7, r8⟩⟩ := hN
  have hM0 := hM
  obtain ⟨kn, hK⟩ := hM
  have ek : kn' = kn := (nI_eq (by omega) (by have := hK.1; omega)).mp (c8.symm.trans hK.2.1)
  subst ek
  have hK' := PS.x00.k hK
  unfold F_X11_known F_X6_addName F_X12_known
  rw [c8, show (xset R 0 0 0) 0 58 = nI kn' from r8]
  have stay : RN C (xset R 0 0 0) ∧ RM C (xset R 0 0 0) := ⟨x00 RN_m hN0 (by decide), x00 RM_m hM0 (by decide)⟩
  by_cases g8 : kn' = 8
  · subst g8
    rw [if_pos (by decide), if_pos (by decide)]
    exact ⟨_, _, _, rfl, rfl, stay⟩
  rw [if_neg (show ¬ (8 : Int32) ≤ nI kn' from nI_ge (b := 8) (by omega) (by decide)), if_neg (show ¬ nI kn' = 8 from fun z => g8 ((nI_eq (b := 8) (by omega) (by decide)).mp z))]
  obtain ⟨v, w1, w2, w3⟩ := word_ok (C := C) (R := xset R 0 0 0) hfu 0 b8 c7 r7 hT
  rw [w1, w2]
  simp only [Option.bind_some]
  rcases w3 with rfl | ⟨rfl, t1, t8, wb⟩
  · rw [if_pos rfl, if_pos rfl]
    exact ⟨_, _, _, rfl, rfl, stay⟩
  rw [if_neg (show ¬ (1 : Int32) = 0 by decide), if_neg (show ¬ (1 : Int32) = 0 by decide)]
  have loop : ∀ k n n1 n2, n + k = kn' → k < n1 → k < n2 → ∃ v C' R', F_X6_addName_b21 fu n1 (nI n) C = some (v, C') ∧ F_X12_known_b26 fu n2 (nI n) (xset R 0 0 0) = some (v, R') ∧ RN C' R' ∧ RM C' R' := by
    intro k
    induction k with
    | zero =>
      intro n n1 n2 hk hn1 hn2
      obtain ⟨n1, rfl⟩ : ∃ z, n1 = z + 1 := ⟨n1 - 1, by omega⟩
      obtain ⟨n2, rfl⟩ : ∃ z, n2 = z + 1 := ⟨n2 - 1, by omega⟩
      obtain rfl : n = kn' := by omega
      have hn8 : n < 8 := by omega
      obtain ⟨C1, e1, h46⟩ := cpy_ok (C := C) (r := 46) (n1 := 64) (b := n * 8) (N := tl) (by decide) (by decide) b8 (by omega) (by decide) c7 hfu
      have f1 : xfr (wr_X9_copyTo 46) C C1 := fr_X9_copyTo _ _ _ _ _ _ e1
      have d90 : C1 9 0 = nI n := (f1 9 0 rfl).trans c8
      have d21 : C1 2 1 = nI tl := (f1 2 1 rfl).trans c7
      obtain ⟨k1, k2, k3, k4, k5, k6⟩ := hK
      obtain ⟨M, m1, m2, m3, m4⟩ := an_ok (S := xset (xset C1 47 n (nI tl)) 2 1 0) hfu hn8 d90 t8 (by simp [xset]) (fun r hr => by
        obtain ⟨L, l1, l2, -, -⟩ := k5 (r / 4) (r % 4) (by omega) (by omega)
        refine ⟨L, l1, ?_⟩
        rw [show (xset (xset C1 47 n (nI tl)) 2 1 0) 49 r = C1 49 r from rfl, f1 49 r rfl, ← l2]
        congr 1
        omega)
      obtain ⟨S', p1, p2, p3⟩ := kcp_ok (S := xset R 0 0 0) hfu hn8 r8 r7 t8 (fun i hi => (wb i hi).2)
      have q46 : ∀ j, M 46 j = C1 46 j := fun j => m2 46 j (by decide) (by decide)
      have q47 : ∀ j, j ≠ n → M 47 j = C 47 j := fun j hj => by
        rw [m2 47 j (by decide) (by decide), show (xset (xset C1 47 n (nI tl)) 2 1 0) 47 j = C1 47 j by simp [xset, hj], f1 47 j rfl]
      have q47n : M 47 n = nI tl := (m2 47 n (by decide) (by decide)).trans (by simp [xset])
      have q48 : ∀ j, M 48 j = C 48 j := fun j => (m2 48 j (by decide) (by decide)).trans (f1 48 j rfl)
      have q49 : ∀ j, M 49 j = C 49 j := fun j => (m2 49 j (by decide) (by decide)).trans (f1 49 j rfl)
      refine ⟨nI n, xset M 9 0 (nI (n + 1)), xset (xset (xset S' 33 n (nI tl)) 0 15 0) 0 58 (nI (n + 1)), ?_, ?_, ?_, n + 1, ?_⟩
      · rw [F_X6_addName_b21, c8, if_pos (nI_le (Nat.le_refl _) (by omega)), show nI n * (8 : Int32) = nI (n * 8) from pk_mul n 8, e1]
        simp only [Option.bind_some]
        rw [d90, d21, put_ok hn8 (by decide)]
        exact m1
      · rw [F_X12_known_b26, show (xset R 0 0 0) 0 58 = nI n from r8, if_pos (nI_le (Nat.le_refl _) (by omega))]
        exact p1
      · have z : ∀ k j, k ≠ 2 → k ≠ 9 → k ≠ 46 → k ≠ 47 → k ≠ 50 → k ≠ 51 → (xset M 9 0 (nI (n + 1))) k j = C k j := by
          intro k j h2 h9 h46 h47 h50 h51
          rw [xset_ne h9, m2 k j h50 h51, xset_ne h2, xset_ne h47, f1 k j (by simp [xin, h46.symm])]
        refine ⟨lv, on, sn, ln, mn, tn, 0, n + 1, ⟨b1, b2, b3, b4, b5, b6, b7, by decide, by omega⟩, ⟨(z 1 0 (by decide) (by decide) (by decide) (by decide) (by decide) (by decide)).trans c1, (z 1 1 (by decide) (by decide) (by decide) (by decide) (by decide) (by decide)).trans c2, (z 1 2 (by decide) (by decide) (by decide) (by decide) (by decide) (by decide)).trans c3, (z 3 0 (by decide) (by decide) (by decide) (by decide) (by decide) (by decide)).trans c4, (z 5 1 (by decide) (by decide) (by decide) (by decide) (by decide) (by decide)).trans c5, (z 8 2 (by decide) (by decide) (by decide) (by decide) (by decide) (by decide)).trans c6, (m2 2 1 (by decide) (by decide)).trans (by simp [xset]; rfl), by simp [xset]⟩, ?_⟩
        exact ⟨(p2 0 1 (by decide)).trans r1, (p2 0 7 (by decide)).trans r2, (p2 0 8 (by decide)).trans r3, (p2 0 16 (by decide)).trans r4, (p2 0 32 (by decide)).trans r5, (p2 0 49 (by decide)).trans r6, rfl, rfl⟩
      · have s31 : ∀ j, (xset (xset (xset S' 33 n (nI tl)) 0 15 0) 0 58 (nI (n + 1))) 31 j = if 8 * n ≤ j ∧ j < 8 * n + tl then R 7 (j - 8 * n) else R 31 j := fun j => p3 j
        have s32 : ∀ j, (xset (xset (xset S' 33 n (nI tl)) 0 15 0) 0 58 (nI (n + 1))) 32 j = R 32 j := fun j => p2 32 j (by decide)
        have s33 : ∀ j, j ≠ n → (xset (xset (xset S' 33 n (nI tl)) 0 15 0) 0 58 (nI (n + 1))) 33 j = R 33 j := fun j hj => by
          rw [show (xset (xset (xset S' 33 n (nI tl)) 0 15 0) 0 58 (nI (n + 1))) 33 j = S' 33 j by simp [xset, hj]]
          exact p2 33 j (by decide)
        have s33n : (xset (xset (xset S' 33 n (nI tl)) 0 15 0) 0 58 (nI (n + 1))) 33 n = nI tl := by simp [xset]
        have s34 : ∀ j, (xset (xset (xset S' 33 n (nI tl)) 0 15 0) 0 58 (nI (n + 1))) 34 j = R 34 j := fun j => p2 34 j (by decide)
        have s58 : (xset (xset (xset S' 33 n (nI tl)) 0 15 0) 0 58 (nI (n + 1))) 0 58 = nI (n + 1) := by simp [xset]
        generalize hS2 : xset (xset (xset S' 33 n (nI tl)) 0 15 0) 0 58 (nI (n + 1)) = S2 at *
        have t46 : ∀ j, (xset M 9 0 (nI (n + 1))) 46 j = C1 46 j := q46
        have t47 : ∀ j, j ≠ n → (xset M 9 0 (nI (n + 1))) 47 j = C 47 j := q47
        have t47n : (xset M 9 0 (nI (n + 1))) 47 n = nI tl := q47n
        have t48 : ∀ j, (xset M 9 0 (nI (n + 1))) 48 j = C 48 j := q48
        have t49 : ∀ j, (xset M 9 0 (nI (n + 1))) 49 j = C 49 j := q49
        have new46 : ∀ i, i < tl → C1 46 (n * 8 + i) = S2 31 (8 * n + i) := by
          intro i hi
          rw [h46, if_pos ⟨by omega, by omega⟩, s31, if_pos ⟨by omega, by omega⟩, Nat.add_sub_cancel_left, Nat.add_sub_cancel_left]
          exact (wb i hi).1
        have old46 : ∀ n' i, n' < n → i < 8 → C1 46 (n' * 8 + i) = C 46 (n' * 8 + i) := by
          intro n' i hn' hi
          rw [h46, if_neg (by omega)]
        have old31 : ∀ n' i, n' < n → i < 8 → S2 31 (8 * n' + i) = R 31 (8 * n' + i) := by
          intro n' i hn' hi
          rw [s31, if_neg (by omega)]
        refine ⟨by omega, by simp [xset], s58, fun n' hn' => ?_, fun p h hp hh => ?_, fun p h n' hp hh hn' => ?_⟩
        · by_cases e : n' = n
          · subst e
            exact ⟨tl, t8, t47n, s33n, fun i hi => (t46 _).trans (new46 i hi)⟩
          · obtain ⟨L, l1, l2, l3, l4⟩ := k4 n' (by omega)
            refine ⟨L, l1, (t47 n' e).trans l2, (s33 n' e).trans l3, fun i hi => ?_⟩
            rw [t46, old46 n' i (by omega) (by omega), old31 n' i (by omega) (by omega)]
            exact l4 i hi
        · obtain ⟨L, l1, l2, l3, l4⟩ := k5 p h hp hh
          refine ⟨L, l1, (t49 _).trans l2, (s34 _).trans l3, fun i hi => ?_⟩
          rw [t48, s32]
          exact l4 i hi
        · obtain ⟨L, l1, l2, l3, l4⟩ := k5 p h hp hh
          by_cases e : n' = n
          · subst e
            show M 50 ((p * 4 + h) * 8 + n') = _
            have z49 : (xset (xset C1 47 n' (nI tl)) 2 1 0) 49 (p * 4 + h) = nI L := (f1 49 _ rfl).trans l2
            rw [m3 (p * 4 + h) (by omega), z49, nI_clamp (by omega)]
            refine congrArg nI (dst_eq ((s34 _).trans l3) s33n l1 t8 (fun i hi => ?_) (fun j hj => new46 j hj))
            rw [s32, ← l4 i hi]
            exact f1 48 _ rfl
          · obtain ⟨L', l1', l2', l3', l4'⟩ := k4 n' (by omega)
            show M 50 ((p * 4 + h) * 8 + n') = _
            rw [m4 (p * 4 + h) n' (by omega) e, show (xset (xset C1 47 n (nI tl)) 2 1 0) 50 ((p * 4 + h) * 8 + n') = C1 50 ((p * 4 + h) * 8 + n') from rfl, f1 50 _ rfl, k6 p h n' hp hh (by omega)]
            refine congrArg nI ?_
            have x1 : dst R (30 * h + p) n' = ed (fun i => R 32 (8 * (30 * h + p) + i)) (fun j => R 31 (8 * n' + j)) L L' := (dst_eq l3 l3' l1 l1' (fun _ _ => rfl) (fun _ _ => rfl)).symm
            rw [x1]
            exact dst_eq ((s34 _).trans l3) ((s33 n' e).trans l3') l1 l1' (fun i hi => (s32 _).symm) (fun j hj => (old31 n' j (by omega) (by omega)).symm)
    | succ k ih =>
      intro n n1 n2 hk hn1 hn2
      obtain ⟨n1, rfl⟩ : ∃ z, n1 = z + 1 := ⟨n1 - 1, by omega⟩
      obtain ⟨n2, rfl⟩ : ∃ z, n2 = z + 1 := ⟨n2 - 1, by omega⟩
      have hn : n < kn' := by omega
      obtain ⟨L, l1, l2, l3, l4⟩ := hK'.2.2.2.1 n hn
      obtain ⟨v, i1, i2⟩ := isn_ok hfu hK' r7 t8 hn
      obtain ⟨u, s1, s2⟩ := sme_ok (C := C) (r0 := 17) (n0 := 120) (r2 := 46) (n2 := 64) (a := 0) (b := n * 8) (L := tl) hfu (by omega) (by omega) (by decide) (by decide)
      have ih' := ih (n + 1) n1 n2 (by omega) (by omega) (by omega)
      have ki : ¬ nI kn' ≤ nI n := nI_ge (by omega) (by omega)
      rw [F_X6_addName_b21, c8, if_neg ki, show nI n * (8 : Int32) = nI (n * 8) from pk_mul n 8, c7, show F_X6_isSame fu 17 120 0 46 64 (nI (n * 8)) (nI tl) C = _ from s1, F_X12_known_b26, show (xset R 0 0 0) 0 58 = nI kn' from r8, if_neg ki, i1]
      simp only [Option.bind_some, F_X6_addName_b69, add1]
      rw [at_ok (show n < 8 by omega) (by decide), l2, c7]
      rcases i2 with ⟨rfl, i2, i3⟩ | ⟨rfl, i2⟩
      · have eL : L = tl := (nI_eq (by omega) (by omega)).mp (l3.symm.trans i2)
        subst eL
        have u1 : u = 1 := by
          rcases s2 with ⟨z, -⟩ | ⟨-, z⟩
          · exact z
          · refine absurd (fun i hi => ?_) z
            rw [Nat.zero_add, (wb i hi).1, l4 i hi]
            exact (i3 i hi).symm
        subst u1
        rw [if_neg (show ¬ (1 : Int32) = 0 by decide), if_neg (show ¬ (1 : Int32) = 0 by decide), if_pos rfl]
        exact ⟨_, _, _, rfl, rfl, stay⟩
      · rw [if_pos rfl]
        rcases s2 with ⟨rfl, s2⟩ | ⟨rfl, s2⟩
        · rw [if_neg (show ¬ (1 : Int32) = 0 by decide)]
          have nL : ¬ nI L = nI tl := fun z => i2 ⟨l3.trans z, fun i hi => by
            have eL : L = tl := (nI_eq (by omega) (by omega)).mp z
            have y := s2 i hi
            rw [Nat.zero_add, (wb i hi).1, l4 i (by omega)] at y
            exact y.symm⟩
          rw [if_neg nL]
          exact ih'
        · rw [if_pos rfl]
          exact ih'
  obtain ⟨v, C', R', h1, h2, h3, h4⟩ := loop kn' 0 fu fu (by omega) (by omega) (by omega)
  rw [show F_X6_addName_b21 fu fu 0 C = _ from h1, show F_X12_known_b26 fu fu 0 (xset R 0 0 0) = _ from h2]
  exact ⟨v, C', R', rfl, rfl, h3, h4⟩
end KNOWN
