section CNT
theorem cnt1 (a b : Nat) : nI a * 16 + nI b = nI (a * 16 + b) := by rw [show (16 : Int32) = nI 16 from rfl, pk_mul, nI_add]
theorem cnt2 (a b : Nat) : 16 * nI a + nI b = nI (a * 16 + b) := by rw [show (16 : Int32) = nI 16 from rfl, pk_mul, nI_add, Nat.mul_comm]
theorem cnt3 (a b : Nat) : nI a * 8 + nI b = nI (a * 8 + b) := by rw [show (8 : Int32) = nI 8 from rfl, pk_mul, nI_add]
theorem cnt4 (a b : Nat) : 8 * nI a + nI b = nI (a * 8 + b) := by rw [show (8 : Int32) = nI 8 from rfl, pk_mul, nI_add, Nat.mul_comm]
theorem add1 (a : Nat) : nI a + 1 = nI (a + 1) := nI_add a 1
theorem sub1 {a : Nat} (h : 1 ≤ a) : nI a - 1 = nI (a - 1) := pk_sub h
end CNT
section RSOPS
variable {C R : xM}
theorem counterC0 {lv mn : Nat} (hl : lv ≤ 16) (hm : mn ≤ 6) (c1 : C 1 0 = nI lv) (c5 : C 5 1 = nI mn) {x1 x2 : Int32} : P_X5_isCounter x1 x2 C = 0 ↔ ¬ (inN x1 mn ∧ inN x2 lv) := by
  unfold P_X5_isCounter
  by_cases h : P_X5_isMachine x1 C = 0
  · rw [if_pos h]
    exact ⟨fun _ z => (mach0 hm c5).mp h z.1, fun _ => rfl⟩
  · rw [if_neg h]
    have h' := Classical.not_not.mp fun z => h ((mach0 (x := x1) hm c5).mpr z)
    by_cases h2 : P_X0_isLever x2 C = 0
    · rw [if_pos h2]
      exact ⟨fun _ z => (lever0 hl c1).mp h2 z.2, fun _ => rfl⟩
    · rw [if_neg h2]
      have h2' := Classical.not_not.mp fun z => h2 ((lever0 (x := x2) hl c1).mpr z)
      exact ⟨fun z => absurd z (by decide), fun z => absurd ⟨h', h2'⟩ z⟩
theorem counter_eq {lv mn : Nat} (hl : lv ≤ 16) (hm : mn ≤ 6) (c1 : C 1 0 = nI lv) (c5 : C 5 1 = nI mn) (r1 : R 0 1 = nI lv) (r5 : R 0 32 = nI mn) {x1 x2 : Int32} : P_X12_isCounter x1 x2 R = P_X5_isCounter x1 x2 C := by
  unfold P_X12_isCounter P_X5_isCounter
  rw [lever_eq hl c1 r1, mach_eq hm c5 r5]
theorem number_eq {x : Int32} {M N : xM} : P_X12_isNumber x M = P_X5_isNumber x N := rfl
theorem number0 {x : Int32} {M : xM} : P_X5_isNumber x M = 0 ↔ ¬ inN x 1000 := within0n (n := 999) (by decide)
theorem op_show (x1 x2 x3 : Int32) (hN : RN C R) (hS : RS C R) : ∃ v C' R', F_X11_show x1 x2 x3 C = some (v, C') ∧ F_X12_show x1 x2 x3 R = some (v, R') ∧ RS C' R' := by
  obtain ⟨lv, on, sn, ln, mn, tn, tl, kn, ⟨b1, b2, b3, b4, b5, b6, -⟩, ⟨c1, c2, c3, c4, c5, -⟩, ⟨r1, r2, r3, r4, r5, -⟩⟩ := hN
  unfold F_X11_show F_X12_show F_X5_setShown
  rw [lever_eq (C := C) (R := xset R 0 0 0) b2 c1 r1, mach_eq (C := C) (R := xset R 0 0 0) b6 c5 r5, number_eq (N := C)]
  by_cases h1 : P_X5_isMachine x1 C = 0
  · refine ⟨0, C, xset R 0 0 0, ?_, by simp [h1], hS⟩
    simp [P_X5_isCounter, h1]
  obtain ⟨m, hm, rfl⟩ := Classical.not_not.mp fun z => h1 ((mach0 b6 c5).mpr z)
  by_cases h2 : P_X0_isLever x2 C = 0
  · refine ⟨0, C, xset R 0 0 0, ?_, by simp [h1, h2], hS⟩
    simp [P_X5_isCounter, h1, h2]
  obtain ⟨j, hj, rfl⟩ := Classical.not_not.mp fun z => h2 ((lever0 b2 c1).mpr z)
  by_cases h3 : P_X5_isNumber x3 C = 0
  · refine ⟨0, C, xset R 0 0 0, ?_, by simp [h1, h2, h3], hS⟩
    simp [P_X5_isCounter, h1, h2, h3]
  obtain ⟨v, hv, rfl⟩ := Classical.not_not.mp fun z => h3 (number0.mpr z)
  have hc : m * 16 + j < 96 := by omega
  refine ⟨1, xset C 26 (m * 16 + j) (nI v), xset (xset R 0 0 0) 12 (m * 16 + j) (nI v), ?_, ?_, ?_⟩
  · simp [P_X5_isCounter, h1, h2, h3, P_X5_counter, cnt1, put_ok hc]
  · rw [if_neg h1, if_neg h2, if_neg h3]
    simp only [cnt2]
    rw [if_neg (idx_no hc (by decide)), nI_clamp (by omega)]
  · obtain ⟨s1, s2, s3⟩ := hS
    refine ⟨fun k hk => ?_, s2, s3⟩
    by_cases e : k = m * 16 + j
    · subst e
      exact ⟨by simp [xset], v, by omega, by simp [xset]⟩
    · obtain ⟨a1, w, hw, a2⟩ := s1 k hk
      exact ⟨by simp [xset, e, a1], w, hw, by simp [xset, e, a2]⟩
theorem withinm1 {x : Int32} {n : Nat} {M : xM} (hn : n ≤ 1000000) : P_X1_within x 0 (nI n - 1) M = 0 ↔ ¬ inN x n := by
  unfold P_X1_within
  rw [idxC hn]
  exact idx0 hn
theorem op_kept (x1 x2 x3 : Int32) (hN : RN C R) (hS : RS C R) : F_X12_kept x1 x2 x3 R = some (P_X11_kept x1 x2 x3 C, xset R 0 0 0) := by
  obtain ⟨lv, on, sn, ln, mn, tn, tl, kn, ⟨b1, b2, b3, b4, b5, b6, -⟩, ⟨c1, c2, c3, c4, c5, -⟩, ⟨r1, r2, r3, r4, r5, -⟩⟩ := hN
  unfold P_X11_kept F_X12_kept P_X5_keptRecount
  rw [counter_eq (C := C) (R := xset R 0 0 0) b2 b6 c1 c5 r1 r5]
  by_cases h1 : P_X5_isCounter x1 x2 C = 0
  · rw [if_pos h1, if_pos h1]
  obtain ⟨⟨m, hm, rfl⟩, ⟨j, hj, rfl⟩⟩ := Classical.not_not.mp fun z => h1 ((counterC0 b2 b6 c1 c5).mpr z)
  obtain ⟨s1, s2, s3⟩ := hS
  have hc : m * 16 + j < 96 := by omega
  obtain ⟨n, hn, e1, e2⟩ := s2 _ hc
  rw [if_neg h1, if_neg h1]
  simp only [P_X5_counter, cnt1, cnt2, at_ok hc (show 96 ≤ 1000000 by decide), if_neg (idx_no2 hc (show 96 ≤ 1000000 by decide)), nI_clamp (show m * 16 + j < 2 ^ 31 by omega)]
  rw [isIn_eq (N := C), e1, show (xset R 0 0 0) 44 (m * 16 + j) = nI n from e2]
  by_cases h2 : P_X1_within x3 0 (nI n - 1) C = 0
  · rw [if_pos h2, if_pos h2]
  obtain ⟨i, hi, rfl⟩ := Classical.not_not.mp fun z => h2 ((withinm1 (by omega)).mpr z)
  have hk : (m * 16 + j) * 8 + i < 768 := by omega
  rw [if_neg h2, if_neg h2]
  simp only [cnt3, cnt4, at_ok hk (show 768 ≤ 1000000 by decide), if_neg (idx_no2 hk (show 768 ≤ 1000000 by decide)), nI_clamp (show (m * 16 + j) * 8 + i < 2 ^ 31 by omega)]
  rw [(s3 _ hk).1]
  rfl
theorem lt8 {n : Nat} (h : n < 2 ^ 31) : (nI n < 8) ↔ n < 8 := nI_ltI h (by decide)
theorem eq8 {n : Nat} (h : n < 2 ^ 31) : (nI n = 8) ↔ n = 8 := nI_eq h (by decide)
theorem op_recount (x1 x2 x3 : Int32) (hN : RN C R) (hS : RS C R) : ∃ v C' R', F_X11_recount x1 x2 x3 C = some (v, C') ∧ F_X12_recount x1 x2 x3 R = some (v, R') ∧ RS C' R' := by
  obtain ⟨lv, on, sn, ln, mn, tn, tl, kn, ⟨b1, b2, b3, b4, b5, b6, -⟩, ⟨c1, c2, c3, c4, c5, -⟩, ⟨r1, r2, r3, r4, r5, -⟩⟩ := hN
  unfold F_X11_recount F_X12_recount F_X5_addRecount
  rw [counter_eq (C := C) (R := xset R 0 0 0) b2 b6 c1 c5 r1 r5, number_eq (N := C)]
  by_cases h1 : P_X5_isCounter x1 x2 C = 0
  · exact ⟨-1, C, xset R 0 0 0, by simp [h1], by simp [h1], hS⟩
  obtain ⟨⟨m, hm, rfl⟩, ⟨j, hj, rfl⟩⟩ := Classical.not_not.mp fun z => h1 ((counterC0 b2 b6 c1 c5).mpr z)
  by_cases h2 : P_X5_isNumber x3 C = 0
  · exact ⟨-1, C, xset R 0 0 0, by simp [h1, h2], by simp [h1, h2], hS⟩
  obtain ⟨w, hw, rfl⟩ := Classical.not_not.mp fun z => h2 (number0.mpr z)
  have hS' := hS
  obtain ⟨s1, s2, s3⟩ := hS
  have hc : m * 16 + j < 96 := by omega
  obtain ⟨n, hn, e1, e2⟩ := s2 _ hc
  rw [if_neg h1, if_neg h1, if_neg h2, if_neg h2]
  simp only [P_X5_counter, cnt1, cnt2, at_ok hc (show 96 ≤ 1000000 by decide), if_neg (idx_no2 hc (show 96 ≤ 1000000 by decide)), nI_clamp (show m * 16 + j < 2 ^ 31 by omega), e1, show (xset R 0 0 0) 44 (m * 16 + j) = nI n from e2, lt8 (show n < 2 ^ 31 by omega), eq8 (show n < 2 ^ 31 by omega)]
  by_cases h3 : n = 8
  · subst h3
    exact ⟨-1, C, xset R 0 0 0, by simp, by simp, hS'⟩
  have hk : (m * 16 + j) * 8 + n < 768 := by omega
  rw [if_pos (show n < 8 by omega), if_neg h3]
  simp only [cnt3, cnt4, put_ok hk (show 768 ≤ 1000000 by decide), if_neg (idx_no2 hk (show 768 ≤ 1000000 by decide)), nI_clamp (show (m * 16 + j) * 8 + n < 2 ^ 31 by omega), Option.bind_some, at_ok hc (show 96 ≤ 1000000 by decide), put_ok hc (show 96 ≤ 1000000 by decide)]
  refine ⟨nI (n + 1), xset (xset C 32 ((m * 16 + j) * 8 + n) (nI w)) 31 (m * 16 + j) (nI (n + 1)), xset (xset (xset R 0 0 0) 45 ((m * 16 + j) * 8 + n) (nI w)) 44 (m * 16 + j) (nI (n + 1)), ?_, ?_, ?_⟩
  · simp [xset, e1, add1]
  · simp [xset, e2, add1]
  · refine ⟨fun k hk => s1 k hk, fun k hk' => ?_, fun k hk' => ?_⟩
    · by_cases e : k = m * 16 + j
      · subst e
        exact ⟨n + 1, by omega, by simp [xset], by simp [xset]⟩
      · obtain ⟨z, hz, z1, z2⟩ := s2 k hk'
        exact ⟨z, hz, by simp [xset, e, z1], by simp [xset, e, z2]⟩
    · by_cases e : k = (m * 16 + j) * 8 + n
      · subst e
        exact ⟨by simp [xset], w, by omega, by simp [xset]⟩
      · obtain ⟨z1, z, hz, z2⟩ := s3 k hk'
        exact ⟨by simp [xset, e, z1], z, hz, by simp [xset, e, z2]⟩
/-- the latest RECOUNT -/
theorem lat_eq {m j : Nat} (hm : m < 6) (hj : j < 16) (hS : RS C R) : ∃ w : Nat, w ≤ 999 ∧ P_X5_latest (nI m) (nI j) C = nI w ∧ F_X12_latest (nI (m * 16 + j)) R = some (nI w, R) := by
  obtain ⟨s1, s2, s3⟩ := hS
  have hc : m * 16 + j < 96 := by omega
  obtain ⟨n, hn, e1, e2⟩ := s2 _ hc
  obtain ⟨a1, v, hv, a2⟩ := s1 _ hc
  unfold P_X5_latest F_X12_latest
  simp only [P_X5_counter, cnt1, cnt3, cnt4, at_ok hc (show 96 ≤ 1000000 by decide), if_neg (idx_no2 hc (show 96 ≤ 1000000 by decide)), nI_clamp (show m * 16 + j < 2 ^ 31 by omega), e1, e2]
  by_cases h : n = 0
  · subst h
    exact ⟨v, hv, by rw [if_pos (by rfl), a1, a2], by rw [if_pos (by rfl), a2]⟩
  · have hk : (m * 16 + j) * 8 + n - 1 < 768 := by omega
    have h0 : ¬ nI n = 0 := nI_ne0 (by omega) (by omega)
    rw [if_neg h0, if_neg h0, sub1 (show 1 ≤ (m * 16 + j) * 8 + n by omega), at_ok hk (by decide), if_neg (idx_no hk (by decide)), nI_clamp (by omega)]
    obtain ⟨z1, z, hz, z2⟩ := s3 _ hk
    exact ⟨z, hz, by rw [z1, z2], by rw [z2]⟩
theorem or0 (x : Int32) : x ||| 0 = x := by
  apply Int32.toBitVec_inj.mp
  simp
theorem bit_eq {j : Nat} (hj : j ≤ 30) {M : xM} : P_X1_bit (nI j) M = (1 : Int32) <<< (nI j &&& 31) := by
  unfold P_X1_bit
  rw [if_neg (nI_pos (by omega)), if_neg (show ¬ (30 : Int32) < nI j from nI_nlt hj (by decide))]
theorem df_loop {m lv : Nat} (hm : m < 6) (hlv : lv ≤ 16) (c1 : C 1 0 = nI lv) (r1 : R 0 1 = nI lv) (hS : RS C R) (fu : Nat) : ∀ (k i : Nat) (acc : Int32) (n1 n2 : Nat), i + k = lv → k < n1 → k < n2 →
    ∃ v, F_X5_unlikeShown_b4 fu (nI m) n1 acc (nI i) C = some (v, C) ∧ F_X12_differing_b4 fu (nI m) n2 acc (nI i) R = some (v, R) := by
  intro k
  induction k with
  | zero =>
    intro i acc n1 n2 hi hn1 hn2
    obtain ⟨n1, rfl⟩ : ∃ z, n1 = z + 1 := ⟨n1 - 1, by omega⟩
    obtain ⟨n2, rfl⟩ : ∃ z, n2 = z + 1 := ⟨n2 - 1, by omega⟩
    rw [F_X5_unlikeShown_b4, F_X12_differing_b4, c1, r1]
    have e : nI lv ≤ nI i := nI_le (by omega) (by omega)
    rw [if_pos e, if_pos e]
    exact ⟨_, rfl, rfl⟩
  | succ k ih =>
    intro i acc n1 n2 hi hn1 hn2
    obtain ⟨n1, rfl⟩ : ∃ z, n1 = z + 1 := ⟨n1 - 1, by omega⟩
    obtain ⟨n2, rfl⟩ : ∃ z, n2 = z + 1 := ⟨n2 - 1, by omega⟩
    have e : ¬ nI lv ≤ nI i := nI_ge (by omega) (by omega)
    have hc : m * 16 + i < 96 := by omega
    obtain ⟨w, hw, l1, l2⟩ := lat_eq (C := C) (R := R) hm (show i < 16 by omega) hS
    obtain ⟨a1, v, hv, a2⟩ := hS.1 _ hc
    rw [F_X5_unlikeShown_b4, F_X12_differing_b4, c1, r1, if_neg e, if_neg e]
    simp only [P_X5_shownAt, P_X5_counter, cnt1, cnt2, l1, l2, Option.bind_some, at_ok hc (show 96 ≤ 1000000 by decide), if_neg (idx_no2 hc (show 96 ≤ 1000000 by decide)), nI_clamp (show m * 16 + i < 2 ^ 31 by omega), a1, F_X5_unlikeShown_b37, F_X12_differing_b44, add1, or0, bit_eq (show i ≤ 30 by omega)]
    by_cases h : nI w = R 12 (m * 16 + i)
    · rw [if_pos h, if_pos h]
      exact ih (i + 1) acc n1 n2 (by omega) (by omega) (by omega)
    · rw [if_neg h, if_neg h]
      exact ih (i + 1) _ n1 n2 (by omega) (by omega) (by omega)
theorem op_differs {fu : Nat} (hfu : 70000 ≤ fu) (x1 : Int32) (hN : RN C R) (hS : RS C R) : ∃ v, F_X11_differs FU x1 C = some (v, C) ∧ F_X12_differs FU x1 R = some (v, xset R 0 0 0) := by
  obtain ⟨lv, on, sn, ln, mn, tn, tl, kn, ⟨b1, b2, b3, b4, b5, b6, -⟩, ⟨c1, c2, c3, c4, c5, -⟩, ⟨r1, r2, r3, r4, r5, -⟩⟩ := hN
  unfold F_X11_differs F_X12_differs F_X5_unlikeShown F_X12_differing
  rw [mach_eq (C := C) (R := xset R 0 0 0) b6 c5 r5]
  by_cases h1 : P_X5_isMachine x1 C = 0
  · exact ⟨-1, by simp [h1], by simp [h1]⟩
  obtain ⟨m, hm, rfl⟩ := Classical.not_not.mp fun z => h1 ((mach0 b6 c5).mpr z)
  obtain ⟨v, f1, f2⟩ := df_loop (C := C) (R := xset R 0 0 0) (show m < 6 by omega) b2 c1 r1 hS FU lv 0 0 FU FU (by omega) (by unfold FU; omega) (by unfold FU; omega)
  refine ⟨v, ?_, ?_⟩
  · rw [if_neg h1, show F_X5_unlikeShown_b4 FU (nI m) FU 0 0 C = some (v, C) from f1]
    rfl
  · rw [if_neg h1, show F_X12_differing_b4 FU (nI m) FU 0 0 (xset R 0 0 0) = some (v, xset R 0 0 0) from f2]
    rfl
theorem ch_loop {c N : Nat} (hc : c < 96) (hN : N ≤ 8) (h1 : C 31 c = nI N) (h2 : R 44 c = nI N) (h3 : ∀ k, k < 768 → C 32 k = R 45 k) (fu : Nat) (x1 x2 : Int32) : ∀ (k i : Nat) (b acc : Int32) (n1 n2 : Nat), i + k = N → k < n1 → k < n2 →
    ∃ v, F_X5_changes_b33 fu x1 x2 n1 (nI c) b acc (nI i) C = some (v, C) ∧ F_X12_changed_b37 fu x1 x2 n2 (nI c) b acc (nI i) R = some (v, R) := by
  intro k
  induction k with
  | zero =>
    intro i b acc n1 n2 hi hn1 hn2
    obtain ⟨n1, rfl⟩ : ∃ z, n1 = z + 1 := ⟨n1 - 1, by omega⟩
    obtain ⟨n2, rfl⟩ : ∃ z, n2 = z + 1 := ⟨n2 - 1, by omega⟩
    rw [F_X5_changes_b33, F_X12_changed_b37, at_ok hc (by decide), h1, if_neg (idx_no hc (by decide)), nI_clamp (by omega), h2]
    have e : nI N ≤ nI i := nI_le (by omega) (by omega)
    rw [if_pos e, if_pos e]
    exact ⟨_, rfl, rfl⟩
  | succ k ih =>
    intro i b acc n1 n2 hi hn1 hn2
    obtain ⟨n1, rfl⟩ : ∃ z, n1 = z + 1 := ⟨n1 - 1, by omega⟩
    obtain ⟨n2, rfl⟩ : ∃ z, n2 = z + 1 := ⟨n2 - 1, by omega⟩
    rw [F_X5_changes_b33, F_X12_changed_b37, at_ok hc (by decide), h1, if_neg (idx_no hc (by decide)), nI_clamp (by omega), h2]
    have e : ¬ nI N ≤ nI i := nI_ge (by omega) (by omega)
    have hk : c * 8 + i < 768 := by omega
    rw [if_neg e, if_neg e]
    simp only [F_X5_changes_b72, F_X12_changed_b72, cnt3, cnt4, at_ok hk (show 768 ≤ 1000000 by decide), if_neg (idx_no2 hk (show 768 ≤ 1000000 by decide)), nI_clamp (show c * 8 + i < 2 ^ 31 by omega), h3 _ hk, add1]
    by_cases e2 : R 45 (c * 8 + i) = b
    · rw [if_pos e2, if_pos e2]
      have := ih (i + 1) (R 45 (c * 8 + i)) acc n1 n2 (by omega) (by omega) (by omega)
      simpa using this
    · rw [if_neg e2, if_neg e2]
      exact ih (i + 1) (R 45 (c * 8 + i)) (acc + 1) n1 n2 (by omega) (by omega) (by omega)
theorem op_changed {fu : Nat} (hfu : 70000 ≤ fu) (x1 x2 : Int32) (hN : RN C R) (hS : RS C R) : ∃ v, F_X11_changed fu x1 x2 C = some (v, C) ∧ F_X12_changed fu x1 x2 R = some (v, xset R 0 0 0) := by
  obtain ⟨lv, on, sn, ln, mn, tn, tl, kn, ⟨b1, b2, b3, b4, b5, b6, -⟩, ⟨c1, c2, c3, c4, c5, -⟩, ⟨r1, r2, r3, r4, r5, -⟩⟩ := hN
  unfold F_X11_changed F_X12_changed F_X5_changes
  rw [counter_eq (C := C) (R := xset R 0 0 0) b2 b6 c1 c5 r1 r5]
  by_cases h1 : P_X5_isCounter x1 x2 C = 0
  · exact ⟨-1, by simp [h1], by simp [h1]⟩
  obtain ⟨⟨m, hm, rfl⟩, ⟨j, hj, rfl⟩⟩ := Classical.not_not.mp fun z => h1 ((counterC0 b2 b6 c1 c5).mpr z)
  obtain ⟨s1, s2, s3⟩ := hS
  have hc : m * 16 + j < 96 := by omega
  obtain ⟨N, hN, e1, e2⟩ := s2 _ hc
  obtain ⟨a1, w, hw, a2⟩ := s1 _ hc
  rw [if_neg h1, if_neg h1]
  simp only [P_X5_counter, cnt1, cnt2, at_ok hc (show 96 ≤ 1000000 by decide), if_neg (idx_no2 hc (show 96 ≤ 1000000 by decide)), nI_clamp (show m * 16 + j < 2 ^ 31 by omega)]
  obtain ⟨v, f1, f2⟩ := ch_loop (C := C) (R := xset R 0 0 0) hc hN e1 e2 (fun k hk => (s3 k hk).1) fu (nI m) (nI j) N 0 (R 12 (m * 16 + j)) 0 fu fu (by omega) (by omega) (by omega)
  rw [nI_0] at f1 f2
  refine ⟨v, ?_, ?_⟩
  · rw [a1, f1]
    rfl
  · exact f2
end RSOPS
