/-! papers: read; the tape fed -/
section READ
variable {C R M : xM} {fu kn lim tl q : Nat}
/-- one reading measured against all names -/
theorem rn_ok (hfu : 70000 ≤ fu) {S : xM} (x1 x2 : Int32) (hkn : kn ≤ 8) (hq : q < 120) (s90 : S 9 0 = nI kn) {L : Nat} (hL : L ≤ 8) (s49 : S 49 q = nI L) (h47 : ∀ n, n < kn → ∃ LN : Nat, LN ≤ 8 ∧ S 47 n = nI LN) : ∃ M', F_X6_setReading_b82 fu x1 x2 fu (nI q) 0 S = some (1, M') ∧ (∀ k j, k ≠ 50 → k ≠ 51 → M' k j = S k j) ∧ (∀ n, n < kn → M' 50 (q * 8 + n) = nI (ed (fun i => S 48 (q * 8 + i)) (fun j => S 46 (n * 8 + j)) L (S 47 n).toNatClampNeg)) ∧ ∀ r n, n < 8 → r ≠ q → M' 50 (r * 8 + n) = S 50 (r * 8 + n) := by
  have loop : ∀ (k i n : Nat) (M : xM), i + k = kn → k < n → (∀ k j, k ≠ 50 → k ≠ 51 → M k j = S k j) → (∀ n, n < i → M 50 (q * 8 + n) = nI (ed (fun i => S 48 (q * 8 + i)) (fun j => S 46 (n * 8 + j)) L (S 47 n).toNatClampNeg)) → (∀ r n, n < 8 → r ≠ q → M 50 (r * 8 + n) = S 50 (r * 8 + n)) → ∃ M', F_X6_setReading_b82 fu x1 x2 n (nI q) (nI i) M = some (1, M') ∧ (∀ k j, k ≠ 50 → k ≠ 51 → M' k j = S k j) ∧ (∀ n, n < kn → M' 50 (q * 8 + n) = nI (ed (fun i => S 48 (q * 8 + i)) (fun j => S 46 (n * 8 + j)) L (S 47 n).toNatClampNeg)) ∧ ∀ r n, n < 8 → r ≠ q → M' 50 (r * 8 + n) = S 50 (r * 8 + n) := by
    intro k
    induction k with
    | zero =>
      intro i n M hk hn hS h1 h2
      obtain ⟨n, rfl⟩ : ∃ z, n = z + 1 := ⟨n - 1, by omega⟩
      obtain rfl : i = kn := by omega
      refine ⟨M, ?_, hS, h1, h2⟩
      rw [F_X6_setReading_b82, hS 9 0 (by decide) (by decide), s90, if_pos (nI_le (Nat.le_refl _) (by omega))]
    | succ k ih =>
      intro i n M hk hn hS h1 h2
      obtain ⟨n, rfl⟩ : ∃ z, n = z + 1 := ⟨n - 1, by omega⟩
      obtain ⟨LN, l1, l2⟩ := h47 i (by omega)
      obtain ⟨M1, e1, e2⟩ := me_ok (C := M) hfu hq (show i < 8 by omega) hL l1 ((hS 49 q (by decide) (by decide)).trans s49) ((hS 47 i (by decide) (by decide)).trans l2)
      have a1 : M 48 = S 48 := funext fun j => hS 48 j (by decide) (by decide)
      have a2 : M 46 = S 46 := funext fun j => hS 46 j (by decide) (by decide)
      rw [a1, a2] at e2
      have f1 : xfr wr_X6_measure M M1 := fr_X6_measure _ _ _ _ _ e1
      rw [F_X6_setReading_b82, hS 9 0 (by decide) (by decide), s90, if_neg (show ¬ nI kn ≤ nI i from nI_ge (by omega) (by omega)), e1]
      simp only [Option.bind_some, add1]
      refine ih (i + 1) n M1 (by omega) (by omega) (fun k j hk1 hk2 => ?_) (fun m hm => ?_) (fun r m hm1 hm2 => ?_)
      · rw [f1 k j (by simp [xin, hk1.symm, hk2.symm]), hS k j hk1 hk2]
      · by_cases e : m = i
        · subst e
          rw [e2, if_pos rfl, l2, nI_clamp (by omega)]
        · rw [e2, if_neg (by omega)]
          exact h1 m (by omega)
      · rw [e2, if_neg (by omega)]
        exact h2 r m hm1 hm2
  exact loop kn 0 fu S (by omega) (by omega) (fun _ _ _ _ => rfl) (fun n hn => absurd hn (by omega)) (fun _ _ _ _ => rfl)
/-- the reference's copy of a reading -/
theorem rcp_ok (hfu : 70000 ≤ fu) {S : xM} (x1 x2 : Int32) (hq : q < 120) (r15 : S 0 15 = nI tl) (htl : tl ≤ 8) (hb : ∀ i, i < tl → vp_nar .byte (S 7 i) = S 7 i) : ∃ M', F_X12_read_b41 fu x1 x2 fu (nI q) 0 S = some (1, xset (xset M' 34 q (nI tl)) 0 15 0) ∧ (∀ k j, k ≠ 32 → M' k j = S k j) ∧ ∀ j, M' 32 j = if 8 * q ≤ j ∧ j < 8 * q + tl then S 7 (j - 8 * q) else S 32 j := by
  have loop : ∀ (k i n : Nat) (M : xM), i + k = tl → k < n → (∀ k j, k ≠ 32 → M k j = S k j) → (∀ j, M 32 j = if 8 * q ≤ j ∧ j < 8 * q + i then S 7 (j - 8 * q) else S 32 j) → ∃ M', F_X12_read_b41 fu x1 x2 n (nI q) (nI i) M = some (1, xset (xset M' 34 q (nI tl)) 0 15 0) ∧ (∀ k j, k ≠ 32 → M' k j = S k j) ∧ ∀ j, M' 32 j = if 8 * q ≤ j ∧ j < 8 * q + tl then S 7 (j - 8 * q) else S 32 j := by
    intro k
    induction k with
    | zero =>
      intro i n M hk hn hS h1
      obtain ⟨n, rfl⟩ : ∃ z, n = z + 1 := ⟨n - 1, by omega⟩
      obtain rfl : i = tl := by omega
      have m15 : M 0 15 = nI i := (hS 0 15 (by decide)).trans r15
      refine ⟨M, ?_, hS, h1⟩
      rw [F_X12_read_b41, m15, if_pos (nI_le (Nat.le_refl _) (by omega)), if_neg (idx_no hq (by decide)), nI_clamp (by omega)]
    | succ k ih =>
      intro i n M hk hn hS h1
      obtain ⟨n, rfl⟩ : ∃ z, n = z + 1 := ⟨n - 1, by omega⟩
      have m15 : M 0 15 = nI tl := (hS 0 15 (by decide)).trans r15
      rw [F_X12_read_b41, m15, if_neg (show ¬ nI tl ≤ nI i from nI_ge (by omega) (by omega)), if_neg (idx_no (show i < 120 by omega) (by decide)), ix8, if_neg (idx_no (show 8 * q + i < 960 by omega) (by decide)), nI_clamp (by omega), nI_clamp (by omega), hS 7 i (by decide), hb i (by omega), add1]
      refine ih (i + 1) n _ (by omega) (by omega) (fun k j hk1 => by rw [xset_ne hk1, hS k j hk1]) (fun j => ?_)
      by_cases e : j = 8 * q + i
      · subst e
        rw [if_pos ⟨by omega, by omega⟩, Nat.add_sub_cancel_left]
        simp [xset]
      · rw [show (xset M 32 (8 * q + i) (S 7 i)) 32 j = M 32 j by simp [xset, e], h1]
        by_cases z : 8 * q ≤ j ∧ j < 8 * q + i
        · rw [if_pos z, if_pos ⟨z.1, by omega⟩]
        · rw [if_neg z, if_neg (fun y => z ⟨y.1, by omega⟩)]
  exact loop tl 0 fu S (by omega) (by omega) (fun _ _ _ => rfl) (fun j => by rw [if_neg (by omega)])
theorem op_read (hfu : 70000 ≤ fu) (x1 x2 : Int32) (hN : RN C R) (hT : RT C R) (hM : RM C R) : ∃ v C' R', F_X11_read fu x1 x2 C = some (v, C') ∧ F_X12_read fu x1 x2 R = some (v, R') ∧ RN C' R' ∧ RM C' R' := by
  have hN0 := hN
  obtain ⟨lv, on, sn, ln, mn, tn, tl, kn', ⟨b1, b2, b3, b4, b5, b6, b7, b8, b9⟩, ⟨c1, c2, c3, c4, c5, c6, c7, c8⟩, ⟨r1, r2, r3, r4, r5, r6, r7, r8⟩⟩ := hN
  have hM0 := hM
  obtain ⟨kn, hK⟩ := hM
  have ek : kn' = kn := (nI_eq (by omega) (by have := hK.1; omega)).mp (c8.symm.trans hK.2.1)
  subst ek
  have stay : RN C (xset R 0 0 0) ∧ RM C (xset R 0 0 0) := ⟨x00 RN_m hN0 (by decide), x00 RM_m hM0 (by decide)⟩
  unfold F_X11_read F_X6_setReading F_X12_read F_X6_setReading_b23 F_X6_setReading_b24 P_X12_isPaper
  rw [isIn_eq (N := C), isIn_eq (N := C)]
  by_cases g1 : P_X1_within x1 0 3 C = 0
  · rw [if_pos g1, if_pos g1, if_pos rfl]
    exact ⟨_, _, _, rfl, rfl, stay⟩
  rw [if_neg g1, if_neg g1]
  by_cases g2 : P_X1_within x2 0 29 C = 0
  · rw [if_pos g2, if_pos g2, if_pos rfl]
    exact ⟨_, _, _, rfl, rfl, stay⟩
  rw [if_neg g2, if_neg g2, if_neg (show ¬ (1 : Int32) = 0 by decide)]
  obtain ⟨h, hh, rfl⟩ := Classical.not_not.mp fun z => g1 ((within0n (n := 3) (by decide)).mpr z)
  obtain ⟨p, hp, rfl⟩ := Classical.not_not.mp fun z => g2 ((within0n (n := 29) (by decide)).mpr z)
  obtain ⟨v, w1, w2, w3⟩ := word_ok (C := C) (R := xset R 0 0 0) hfu 1 b8 c7 r7 hT
  rw [w1, w2]
  simp only [Option.bind_some]
  rcases w3 with rfl | ⟨rfl, t1, t8, wb⟩
  · rw [if_pos rfl, if_pos rfl]
    exact ⟨_, _, _, rfl, rfl, stay⟩
  rw [if_neg (show ¬ (1 : Int32) = 0 by decide), if_neg (show ¬ (1 : Int32) = 0 by decide)]
  have hr : p * 4 + h < 120 := by omega
  have hq : 30 * h + p < 120 := by omega
  obtain ⟨C1, e1, h48⟩ := cpy_ok (C := C) (r := 48) (n1 := 960) (b := (p * 4 + h) * 8) (N := tl) (by decide) (by decide) b8 (by omega) (by decide) c7 hfu
  have f1 : xfr (wr_X9_copyTo 48) C C1 := fr_X9_copyTo _ _ _ _ _ _ e1
  have d90 : C1 9 0 = nI kn' := (f1 9 0 rfl).trans c8
  have d21 : C1 2 1 = nI tl := (f1 2 1 rfl).trans c7
  obtain ⟨k1, k2, k3, k4, k5, k6⟩ := hK
  obtain ⟨M, m1, m2, m3, m4⟩ := rn_ok (S := xset (xset C1 49 (p * 4 + h) (nI tl)) 2 1 0) hfu (nI h) (nI p) b9 hr d90 t8 (by simp [xset]) (fun n hn => by
    obtain ⟨L, l1, l2, -, -⟩ := k4 n hn
    exact ⟨L, l1, (f1 47 n rfl).trans l2⟩)
  obtain ⟨S', p1, p2, p3⟩ := rcp_ok (S := xset R 0 0 0) hfu (nI h) (nI p) hq r7 t8 (fun i hi => (wb i hi).2)
  have q46 : ∀ j, M 46 j = C 46 j := fun j => (m2 46 j (by decide) (by decide)).trans (f1 46 j rfl)
  have q47 : ∀ j, M 47 j = C 47 j := fun j => (m2 47 j (by decide) (by decide)).trans (f1 47 j rfl)
  have q48 : ∀ j, M 48 j = C1 48 j := fun j => m2 48 j (by decide) (by decide)
  have q49 : ∀ j, j ≠ p * 4 + h → M 49 j = C 49 j := fun j hj => by
    rw [m2 49 j (by decide) (by decide), show (xset (xset C1 49 (p * 4 + h) (nI tl)) 2 1 0) 49 j = C1 49 j by simp [xset, hj], f1 49 j rfl]
  have q49n : M 49 (p * 4 + h) = nI tl := (m2 49 _ (by decide) (by decide)).trans (by simp [xset])
  have s31 : ∀ j, (xset (xset S' 34 (30 * h + p) (nI tl)) 0 15 0) 31 j = R 31 j := fun j => p2 31 j (by decide)
  have s32 : ∀ j, (xset (xset S' 34 (30 * h + p) (nI tl)) 0 15 0) 32 j = if 8 * (30 * h + p) ≤ j ∧ j < 8 * (30 * h + p) + tl then R 7 (j - 8 * (30 * h + p)) else R 32 j := fun j => p3 j
  have s33 : ∀ j, (xset (xset S' 34 (30 * h + p) (nI tl)) 0 15 0) 33 j = R 33 j := fun j => p2 33 j (by decide)
  have s34 : ∀ j, j ≠ 30 * h + p → (xset (xset S' 34 (30 * h + p) (nI tl)) 0 15 0) 34 j = R 34 j := fun j hj => by
    rw [show (xset (xset S' 34 (30 * h + p) (nI tl)) 0 15 0) 34 j = S' 34 j by simp [xset, hj]]
    exact p2 34 j (by decide)
  have s34n : (xset (xset S' 34 (30 * h + p) (nI tl)) 0 15 0) 34 (30 * h + p) = nI tl := by simp [xset]
  have s58 : (xset (xset S' 34 (30 * h + p) (nI tl)) 0 15 0) 0 58 = nI kn' := (p2 0 58 (by decide)).trans r8
  have hRN : RN M (xset (xset S' 34 (30 * h + p) (nI tl)) 0 15 0) := by
    have z : ∀ k j, k ≠ 2 → k ≠ 48 → k ≠ 49 → k ≠ 50 → k ≠ 51 → M k j = C k j := by
      intro k j h2 h48' h49 h50 h51
      rw [m2 k j h50 h51, xset_ne h2, xset_ne h49, f1 k j (by simp [xin, h48'.symm])]
    refine ⟨lv, on, sn, ln, mn, tn, 0, kn', ⟨b1, b2, b3, b4, b5, b6, b7, by decide, b9⟩, ⟨(z 1 0 (by decide) (by decide) (by decide) (by decide) (by decide)).trans c1, (z 1 1 (by decide) (by decide) (by decide) (by decide) (by decide)).trans c2, (z 1 2 (by decide) (by decide) (by decide) (by decide) (by decide)).trans c3, (z 3 0 (by decide) (by decide) (by decide) (by decide) (by decide)).trans c4, (z 5 1 (by decide) (by decide) (by decide) (by decide) (by decide)).trans c5, (z 8 2 (by decide) (by decide) (by decide) (by decide) (by decide)).trans c6, (m2 2 1 (by decide) (by decide)).trans (by simp [xset]; rfl), (z 9 0 (by decide) (by decide) (by decide) (by decide) (by decide)).trans c8⟩, ?_⟩
    exact ⟨(p2 0 1 (by decide)).trans r1, (p2 0 7 (by decide)).trans r2, (p2 0 8 (by decide)).trans r3, (p2 0 16 (by decide)).trans r4, (p2 0 32 (by decide)).trans r5, (p2 0 49 (by decide)).trans r6, rfl, s58⟩
  generalize hS2 : xset (xset S' 34 (30 * h + p) (nI tl)) 0 15 0 = S2 at *
  refine ⟨1, M, S2, ?_, ?_, hRN, kn', ?_⟩
  · rw [ix4, show nI (p * 4 + h) * (8 : Int32) = nI ((p * 4 + h) * 8) from pk_mul _ 8, e1]
    simp only [Option.bind_some, ix4]
    rw [d21, put_ok hr (by decide)]
    simp only [Option.bind_some]
    rw [m1]
    rfl
  · rw [ix30]
    exact p1
  · have new48 : ∀ i, i < tl → C1 48 ((p * 4 + h) * 8 + i) = S2 32 (8 * (30 * h + p) + i) := by
      intro i hi
      rw [h48, if_pos ⟨by omega, by omega⟩, s32, if_pos ⟨by omega, by omega⟩, Nat.add_sub_cancel_left, Nat.add_sub_cancel_left]
      exact (wb i hi).1
    have old48 : ∀ r i, r ≠ p * 4 + h → i < 8 → C1 48 (r * 8 + i) = C 48 (r * 8 + i) := by
      intro r i hr' hi
      rw [h48, if_neg (by omega)]
    have old32 : ∀ q i, q ≠ 30 * h + p → i < 8 → S2 32 (8 * q + i) = R 32 (8 * q + i) := by
      intro q i hq' hi
      rw [s32, if_neg (by omega)]
    refine ⟨b9, (m2 9 0 (by decide) (by decide)).trans d90, s58, fun n hn => ?_, fun p' h' hp' hh' => ?_, fun p' h' n hp' hh' hn => ?_⟩
    · obtain ⟨L, l1, l2, l3, l4⟩ := k4 n hn
      refine ⟨L, l1, (q47 n).trans l2, (s33 n).trans l3, fun i hi => ?_⟩
      rw [q46, s31]
      exact l4 i hi
    · by_cases e : p' = p ∧ h' = h
      · obtain ⟨rfl, rfl⟩ := e
        exact ⟨tl, t8, q49n, s34n, fun i hi => (q48 _).trans (new48 i hi)⟩
      · have ne1 : p' * 4 + h' ≠ p * 4 + h := by omega
        have ne2 : 30 * h' + p' ≠ 30 * h + p := by omega
        obtain ⟨L, l1, l2, l3, l4⟩ := k5 p' h' hp' hh'
        refine ⟨L, l1, (q49 _ ne1).trans l2, (s34 _ ne2).trans l3, fun i hi => ?_⟩
        rw [q48, old48 _ i ne1 (by omega), old32 _ i ne2 (by omega)]
        exact l4 i hi
    · obtain ⟨LN, l1', l2', l3', l4'⟩ := k4 n hn
      by_cases e : p' = p ∧ h' = h
      · obtain ⟨rfl, rfl⟩ := e
        have z47 : (xset (xset C1 49 (p' * 4 + h') (nI tl)) 2 1 0) 47 n = nI LN := (f1 47 n rfl).trans l2'
        rw [m3 n hn, z47, nI_clamp (by omega)]
        refine congrArg nI (dst_eq s34n ((s33 n).trans l3') t8 l1' (fun i hi => new48 i hi) (fun j hj => ?_))
        rw [s31, ← l4' j hj]
        exact f1 46 _ rfl
      · have ne1 : p' * 4 + h' ≠ p * 4 + h := by omega
        have ne2 : 30 * h' + p' ≠ 30 * h + p := by omega
        obtain ⟨L, l1, l2, l3, l4⟩ := k5 p' h' hp' hh'
        rw [m4 (p' * 4 + h') n (by omega) ne1, show (xset (xset C1 49 (p * 4 + h) (nI tl)) 2 1 0) 50 ((p' * 4 + h') * 8 + n) = C1 50 ((p' * 4 + h') * 8 + n) from rfl, f1 50 _ rfl, k6 p' h' n hp' hh' hn]
        refine congrArg nI ?_
        have x1 : dst R (30 * h' + p') n = ed (fun i => R 32 (8 * (30 * h' + p') + i)) (fun j => R 31 (8 * n + j)) L LN := (dst_eq l3 l3' l1 l1' (fun _ _ => rfl) (fun _ _ => rfl)).symm
        rw [x1]
        exact dst_eq ((s34 _ ne2).trans l3) ((s33 n).trans l3') l1 l1' (fun i hi => (old32 _ i ne2 (by omega)).symm) (fun j hj => (s31 _).symm)
theorem op_feed (hfu : 70000 ≤ fu) (x1 x2 x3 x4 x5 : Int32) (hN : RN C R) (hT : RT C R) : ∃ v C' R', F_X11_feed fu x1 x2 x3 x4 x5 C = some (v, C') ∧ F_X12_feed fu x1 x2 x3 x4 x5 R = some (v, R') ∧ RN C' R' ∧ RT C' R' := by
  obtain ⟨lv, on, sn, ln, mn, tn, tl, kn, ⟨b1, b2, b3, b4, b5, b6, b7, b8, b9⟩, ⟨c1, c2, c3, c4, c5, c6, c7, c8⟩, ⟨r1, r2, r3, r4, r5, r6, r7, r8⟩⟩ := hN
  obtain ⟨v, C', R', L', e1, e2, hL, t1, t2, t3⟩ := feed_ok hfu x1 x2 x3 x4 x5 b8 (show TP C R tl from ⟨c7, r7, hT⟩)
  have f1 : xfr wr_X11_feed C C' := fr_X11_feed _ _ _ _ _ _ _ _ e1
  have f2 : xfr wr_X12_feed R R' := fr_X12_feed _ _ _ _ _ _ _ _ e2
  exact ⟨v, C', R', e1, e2, ⟨lv, on, sn, ln, mn, tn, L', kn, ⟨b1, b2, b3, b4, b5, b6, b7, hL, b9⟩, ⟨(f1 1 0 rfl).trans c1, (f1 1 1 rfl).trans c2, (f1 1 2 rfl).trans c3, (f1 3 0 rfl).trans c4, (f1 5 1 rfl).trans c5, (f1 8 2 rfl).trans c6, t1, (f1 9 0 rfl).trans c8⟩, ⟨(f2 0 1 rfl).trans r1, (f2 0 7 rfl).trans r2, (f2 0 8 rfl).trans r3, (f2 0 16 rfl).trans r4, (f2 0 32 rfl).trans r5, (f2 0 49 rfl).trans r6, t2, (f2 0 58 rfl).trans r8⟩⟩, t3⟩
end READ
