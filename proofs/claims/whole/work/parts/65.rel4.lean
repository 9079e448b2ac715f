section EV
variable {C R : xM}
theorem cnt5 (a b : Nat) : nI a * 20 + nI b = nI (a * 20 + b) := by rw [show (20 : Int32) = nI 20 from rfl, pk_mul, nI_add]
theorem cnt6 (a b : Nat) : 20 * nI a + nI b = nI (a * 20 + b) := by rw [show (20 : Int32) = nI 20 from rfl, pk_mul, nI_add, Nat.mul_comm]
theorem cnt6' (a : Nat) : 20 * nI a = nI (a * 20) := by rw [show (20 : Int32) = nI 20 from rfl, pk_mul, Nat.mul_comm]
theorem within_in {x : Int32} {n : Nat} {M : xM} (hn : n < 1000000) (h : ¬ P_X1_within x 0 (nI n) M = 0) : ∃ j, j ≤ n ∧ x = nI j := by
  obtain ⟨j, hj, e⟩ := Classical.not_not.mp fun z => h ((within0n hn).mpr z)
  exact ⟨j, by omega, e⟩
theorem ev_kind (x1 x2 x3 x4 : Int32) (N : xM) : (if P_X12_isIn x3 0 3 N = 0 then some (-1, N) else if x3 = 2 then F_X12_event_b75 x1 x2 x3 x4 N else if x3 = 3 then F_X12_event_b67 x1 x2 x3 x4 9 0 x4 N else F_X12_event_b67 x1 x2 x3 x4 9999 0 x4 N) = if P_X7_canBe x3 x4 C = 0 then some (-1, N) else F_X12_event_b75 x1 x2 x3 x4 N := by
  unfold F_X12_event_b67 P_X7_canBe P_X7_canBe_b32 P_X7_isPlace
  simp only [isIn_eq (N := C)]
  by_cases h : P_X1_within x3 0 3 C = 0
  · have h' := (within0n (n := 3) (M := C) (by decide)).mp h
    have k0 : ¬ x3 = 0 := fun z => h' ⟨0, by decide, z⟩
    have k1 : ¬ x3 = 1 := fun z => h' ⟨1, by decide, z⟩
    have k2 : ¬ x3 = 2 := fun z => h' ⟨2, by decide, z⟩
    have k3 : ¬ x3 = 3 := fun z => h' ⟨3, by decide, z⟩
    simp [h, k0, k1, k2, k3]
  · obtain ⟨j, hj, rfl⟩ := within_in (n := 3) (by decide) h
    rw [if_neg h]
    rcases (show j = 0 ∨ j = 1 ∨ j = 2 ∨ j = 3 by omega) with rfl | rfl | rfl | rfl
    · rw [if_neg (show ¬ nI 0 = 2 by decide), if_neg (show ¬ nI 0 = 3 by decide), if_pos (show nI 0 = 0 by decide)]
    · rw [if_neg (show ¬ nI 1 = 2 by decide), if_neg (show ¬ nI 1 = 3 by decide), if_neg (show ¬ nI 1 = 0 by decide), if_pos (show nI 1 = 1 by decide)]
    · rw [if_pos (show nI 2 = 2 by decide), if_neg (show ¬ nI 2 = 0 by decide), if_neg (show ¬ nI 2 = 1 by decide), if_pos (show nI 2 = 2 by decide), if_neg (show ¬ (1 : Int32) = 0 by decide)]
    · rw [if_neg (show ¬ nI 3 = 2 by decide), if_pos (show nI 3 = 3 by decide), if_neg (show ¬ nI 3 = 0 by decide), if_neg (show ¬ nI 3 = 1 by decide), if_neg (show ¬ nI 3 = 2 by decide), if_pos (show nI 3 = 3 by decide)]
theorem ev_put {m e t : Nat} (hm : m < 6) (he : e < 20) (ht : t ≤ 9999) (x3 x4 : Int32) (hE : RE C R) (e1 : C 52 m = nI e) (e2 : R 38 m = nI e) : ∃ C' R', ((F_X1_put 53 120 (nI (m * 20 + e)) (nI t) C).bind fun q1 => (F_X1_put 54 120 (nI (m * 20 + e)) x3 q1).bind fun q2 => (F_X1_put 55 120 (nI (m * 20 + e)) x4 q2).bind fun q3 => (F_X1_put 52 6 (nI m) (nI e + 1) q3).bind fun q4 => some (nI e + 1, q4)) = some (nI (e + 1), C') ∧ F_X12_event_b112 (nI m) (nI t) x3 x4 (nI (m * 20 + e)) R = some (nI (e + 1), R') ∧ RE C' R' := by
  have hk : m * 20 + e < 120 := by omega
  have hm' : m < 6 := hm
  unfold F_X12_event_b112
  simp only [put_ok hk (show 120 ≤ 1000000 by decide), put_ok hm' (show 6 ≤ 1000000 by decide), Option.bind_some, nI_clamp (show m * 20 + e < 2 ^ 31 by omega), nI_clamp (show m < 2 ^ 31 by omega), if_neg (idx_no2 hk (show 120 ≤ 1000000 by decide)), if_neg (idx_no2 hm' (show 6 ≤ 1000000 by decide)), add1]
  have e3 : xset (xset (xset R 39 (m * 20 + e) (nI t)) 40 (m * 20 + e) x3) 41 (m * 20 + e) x4 38 m = nI e := e2
  refine ⟨_, xset (xset (xset (xset R 39 (m * 20 + e) (nI t)) 40 (m * 20 + e) x3) 41 (m * 20 + e) x4) 38 m (nI (e + 1)), rfl, ?_, ?_⟩
  · rw [e3, add1]
    simp [xset]
  · obtain ⟨s1, s2⟩ := hE
    refine ⟨fun k hk' => ?_, fun k hk' => ?_⟩
    · by_cases z : k = m
      · subst z
        exact ⟨e + 1, by omega, by simp [xset], by simp [xset, e2, add1]⟩
      · obtain ⟨n, hn, n1, n2⟩ := s1 k hk'
        exact ⟨n, hn, by simp [xset, z, n1], by simp [xset, z, n2]⟩
    · by_cases z : k = m * 20 + e
      · subst z
        exact ⟨by simp [xset], by simp [xset], by simp [xset], t, ht, by simp [xset]⟩
      · obtain ⟨a1, a2, a3, w, hw, a4⟩ := s2 k hk'
        exact ⟨by simp [xset, z, a1], by simp [xset, z, a2], by simp [xset, z, a3], w, hw, by simp [xset, z, a4]⟩
theorem op_event (x1 x2 x3 x4 : Int32) (hN : RN C R) (hE : RE C R) : ∃ v C' R', F_X11_event x1 x2 x3 x4 C = some (v, C') ∧ F_X12_event x1 x2 x3 x4 R = some (v, R') ∧ RE C' R' := by
  obtain ⟨lv, on, sn, ln, mn, tn, tl, kn, ⟨b1, b2, b3, b4, b5, b6, -⟩, ⟨c1, c2, c3, c4, c5, -⟩, ⟨r1, r2, r3, r4, r5, -⟩⟩ := hN
  unfold F_X11_event F_X12_event F_X7_add
  rw [mach_eq (C := C) (R := xset R 0 0 0) b6 c5 r5]
  by_cases h1 : P_X5_isMachine x1 C = 0
  · exact ⟨-1, C, xset R 0 0 0, by simp [h1], by simp [h1], hE⟩
  obtain ⟨m, hm, rfl⟩ := Classical.not_not.mp fun z => h1 ((mach0 b6 c5).mpr z)
  have hm6 : m < 6 := by omega
  have hE' := hE
  obtain ⟨s1, s2⟩ := hE
  obtain ⟨e, he, e1, e2⟩ := s1 m hm6
  have e2' : (xset R 0 0 0) 38 m = nI e := e2
  rw [if_neg h1, if_neg h1, nI_clamp (by omega), if_neg (idx_no2 hm6 (by decide)), at_ok hm6 (by decide), e1, e2', cnt5]
  by_cases h20 : e = 20
  · subst h20
    refine ⟨-1, C, xset R 0 0 0, ?_, by rw [if_pos (by rfl)], hE'⟩
    rw [if_neg (by decide)]
    unfold F_X7_add_b39
    rw [if_pos (by decide)]
    rfl
  have he' : e < 20 := by omega
  rw [if_neg (show ¬ nI e = 20 from fun z => h20 ((nI_eq (by omega) (by decide)).mp z)), ev_kind (C := C), isIn_eq (N := C)]
  have h20' : ¬ (20 : Int32) ≤ nI e := nI_ge he' (by decide)
  unfold F_X7_add_b39 P_X7_isTime
  simp only [if_neg h20']
  by_cases h2 : P_X1_within x2 0 9999 C = 0
  · refine ⟨-1, C, xset R 0 0 0, ?_, by rw [if_pos h2], hE'⟩
    by_cases z : nI e = 0 <;> simp [z, h2]
  obtain ⟨t, ht, rfl⟩ := within_in (n := 9999) (by decide) h2
  simp only [if_neg h2]
  by_cases h3 : P_X7_canBe x3 x4 C = 0
  · refine ⟨-1, C, xset R 0 0 0, ?_, by rw [if_pos h3], hE'⟩
    by_cases z : nI e = 0
    · simp only [z, h3, if_true]
      by_cases z2 : nI t < 0 <;> simp [z2]
    · simp only [z, h3, if_true, if_false]
      split <;> rfl
  simp only [if_neg h3]
  unfold F_X12_event_b75
  simp only [nI_clamp (show m < 2 ^ 31 by omega), if_neg (idx_no2 hm6 (show 6 ≤ 1000000 by decide)), e2', cnt6]
  obtain ⟨C', R', p1, p2, p3⟩ := ev_put (C := C) (R := xset R 0 0 0) hm6 he' ht x3 x4 hE' e1 e2'
  by_cases z : e = 0
  · subst z
    rw [if_pos (show nI 0 = 0 from rfl), if_neg (show ¬ nI t < 0 from nI_pos (by omega)), if_pos (show nI 0 ≤ 0 by decide)]
    exact ⟨_, C', R', by rw [p1]; rfl, p2, p3⟩
  · have hk : m * 20 + e - 1 < 120 := by omega
    obtain ⟨a1, a2, a3, w, hw, a4⟩ := s2 _ hk
    have a4' : (xset R 0 0 0) 39 (m * 20 + e - 1) = nI w := a4
    rw [if_neg (show ¬ nI e = 0 from nI_ne0 (by omega) (by omega)), if_neg (show ¬ nI e ≤ 0 from nI_nle (by omega) (by omega)), sub1 (show 1 ≤ m * 20 + e by omega), at_ok hk (by decide), nI_clamp (by omega), if_neg (idx_no2 hk (by decide)), a1, a4, a4']
    by_cases z2 : t < w
    · rw [if_pos (show nI t < nI w from nI_lt z2 (by omega)), if_neg (show ¬ nI w ≤ nI t from nI_ge z2 (by omega))]
      exact ⟨-1, C, xset R 0 0 0, rfl, rfl, hE'⟩
    · rw [if_neg (show ¬ nI t < nI w from nI_nlt (by omega) (by omega)), if_pos (show nI w ≤ nI t from nI_le (by omega) (by omega))]
      exact ⟨_, C', R', by rw [p1]; rfl, p2, p3⟩
theorem pl_loop {m e : Nat} (hm : m < 6) (he : e ≤ 20) (e1 : C 52 m = nI e) (e2 : R 38 m = nI e) (hE : RE C R) (fu : Nat) (x2 : Int32) : ∀ (k i : Nat) (acc : Int32) (n1 n2 : Nat), i + k = e → k < n1 → k < n2 →
    ∃ v, F_X7_placeThen_b5 fu (nI m) x2 n1 acc (nI i) C = some (v, C) ∧ F_X12_placeAt_b34 fu (nI m) x2 n2 acc (nI (m * 20 + i)) R = some (v, R) := by
  intro k
  induction k with
  | zero =>
    intro i acc n1 n2 hi hn1 hn2
    obtain ⟨n1, rfl⟩ : ∃ z, n1 = z + 1 := ⟨n1 - 1, by omega⟩
    obtain ⟨n2, rfl⟩ : ∃ z, n2 = z + 1 := ⟨n2 - 1, by omega⟩
    rw [F_X7_placeThen_b5, F_X12_placeAt_b34, at_ok hm (by decide), e1, nI_clamp (by omega), if_neg (idx_no2 hm (by decide)), e2, cnt6]
    rw [if_pos (show nI e ≤ nI i from nI_le (by omega) (by omega)), if_pos (show nI (m * 20 + e) ≤ nI (m * 20 + i) from nI_le (by omega) (by omega))]
    exact ⟨_, rfl, rfl⟩
  | succ k ih =>
    intro i acc n1 n2 hi hn1 hn2
    obtain ⟨n1, rfl⟩ : ∃ z, n1 = z + 1 := ⟨n1 - 1, by omega⟩
    obtain ⟨n2, rfl⟩ : ∃ z, n2 = z + 1 := ⟨n2 - 1, by omega⟩
    have hk : m * 20 + i < 120 := by omega
    obtain ⟨a1, a2, a3, -⟩ := hE.2 _ hk
    rw [F_X7_placeThen_b5, F_X12_placeAt_b34, at_ok hm (by decide), e1, nI_clamp (by omega), if_neg (idx_no2 hm (by decide)), e2, cnt6]
    rw [if_neg (show ¬ nI e ≤ nI i from nI_ge (by omega) (by omega)), if_neg (show ¬ nI (m * 20 + e) ≤ nI (m * 20 + i) from nI_ge (by omega) (by omega))]
    simp only [cnt5, at_ok hk (show 120 ≤ 1000000 by decide), nI_clamp (show m * 20 + i < 2 ^ 31 by omega), if_neg (idx_no2 hk (show 120 ≤ 1000000 by decide)), a1, a2, a3, F_X7_placeThen_b63, F_X12_placeAt_b80, add1]
    have h := fun acc => ih (i + 1) acc n1 n2 (by omega) (by omega) (by omega)
    by_cases z : R 40 (m * 20 + i) = 3
    · rw [if_pos z, if_pos z]
      by_cases z2 : x2 < R 39 (m * 20 + i)
      · rw [if_pos z2, if_pos z2]; exact h _
      · rw [if_neg z2, if_neg z2]; exact h _
    · rw [if_neg z, if_neg z]; exact h _
theorem op_placeAt {fu : Nat} (hfu : 70000 ≤ fu) (x1 x2 : Int32) (hN : RN C R) (hE : RE C R) : ∃ v, F_X11_placeAt fu x1 x2 C = some (v, C) ∧ F_X12_placeAt fu x1 x2 R = some (v, xset R 0 0 0) := by
  obtain ⟨lv, on, sn, ln, mn, tn, tl, kn, ⟨b1, b2, b3, b4, b5, b6, -⟩, ⟨c1, c2, c3, c4, c5, -⟩, ⟨r1, r2, r3, r4, r5, -⟩⟩ := hN
  unfold F_X11_placeAt F_X12_placeAt P_X7_isTime F_X7_placeThen
  rw [mach_eq (C := C) (R := xset R 0 0 0) b6 c5 r5, isIn_eq (N := C)]
  by_cases h1 : P_X5_isMachine x1 C = 0
  · exact ⟨-1, by simp [h1], by simp [h1]⟩
  obtain ⟨m, hm, rfl⟩ := Classical.not_not.mp fun z => h1 ((mach0 b6 c5).mpr z)
  have hm6 : m < 6 := by omega
  by_cases h2 : P_X1_within x2 0 9999 C = 0
  · exact ⟨-1, by simp [h1, h2], by simp [h1, h2]⟩
  obtain ⟨e, he, e1, e2⟩ := hE.1 m hm6
  obtain ⟨v, f1, f2⟩ := pl_loop (C := C) (R := xset R 0 0 0) hm6 he e1 e2 hE fu x2 e 0 0 fu fu (by omega) (by omega) (by omega)
  rw [nI_0] at f1
  rw [Nat.add_zero] at f2
  refine ⟨v, ?_, ?_⟩
  · rw [if_neg h1, if_neg h2, f1]
    rfl
  · rw [if_neg h1, if_neg h2, cnt6']
    exact f2
end EV
