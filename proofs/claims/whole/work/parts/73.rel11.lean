/-! FAULTS of MACHINES -/
def okF (lv : Nat) (k a b : Int32) : Prop := (k = 0 ∧ inN a lv ∧ (b = 0 ∨ b = 1)) ∨ (k = 1 ∧ inN a lv ∧ inN b lv ∧ ¬ a = b) ∨ (k = 2 ∧ inN a lv) ∨ (k = 3 ∧ inN a lv ∧ ∃ w : Nat, 1 ≤ w ∧ w ≤ 999 ∧ b = nI w) ∨ (k = 4 ∧ inN a 6)
def RQ (C R : xM) : Prop := (∀ m, m < 6 → ∃ n : Nat, n ≤ 8 ∧ C 27 m = nI n ∧ R 15 m = nI n) ∧ (∀ k, k < 48 → C 28 k = R 16 k ∧ C 29 k = R 17 k ∧ C 30 k = R 18 k) ∧
  ∃ lv : Nat, lv ≤ 16 ∧ R 0 1 = nI lv ∧ ∀ m n f, m < 6 → R 15 m = nI n → n ≤ 8 → f < n → okF lv (R 16 (m * 8 + f)) (R 17 (m * 8 + f)) (R 18 (m * 8 + f))
abbrev RQc : List (Nat × Option Nat) := [(27, none), (28, none), (29, none), (30, none)]
abbrev RQr : List (Nat × Option Nat) := [(0, some 1), (15, none), (16, none), (17, none), (18, none)]
theorem RQ_m (C R : xM) : RQ (msk RQc C) (msk RQr R) ↔ RQ C R := Iff.rfl
section TRB
variable {C R : xM}
theorem office0 {on : Nat} (ho : on ≤ 6) (c2 : C 1 1 = nI on) {x : Int32} : P_X0_isOffice x C = 0 ↔ ¬ inN x on := by
  unfold P_X0_isOffice
  rw [c2]
  exact withinm1 (by omega)
theorem canBe_ok {lv on : Nat} (hl : lv ≤ 16) (ho : on ≤ 6) (c1 : C 1 0 = nI lv) (c2 : C 1 1 = nI on) {k a b : Int32} (h : ¬ P_X5_canBe k a b C = 0) : okF lv k a b := by
  have L : ∀ x, ¬ P_X0_isLever x C = 0 → inN x lv := fun x z => Classical.not_not.mp fun y => z ((lever0 hl c1).mpr y)
  unfold P_X5_canBe at h
  by_cases k0 : k = 0
  · rw [if_pos k0] at h
    by_cases h1 : P_X0_isLever a C = 0
    · rw [if_pos h1] at h; exact absurd rfl h
    rw [if_neg h1] at h
    by_cases h2 : P_X1_within b 0 1 C = 0
    · rw [if_pos h2] at h; exact absurd rfl h
    exact Or.inl ⟨k0, L a h1, one01 h2⟩
  rw [if_neg k0] at h
  by_cases k1 : k = 1
  · rw [if_pos k1] at h
    by_cases h1 : P_X0_isLever a C = 0
    · rw [if_pos h1] at h; exact absurd rfl h
    rw [if_neg h1] at h
    by_cases h2 : P_X0_isLever b C = 0
    · rw [if_pos h2] at h; exact absurd rfl h
    rw [if_neg h2] at h
    by_cases h3 : a = b
    · rw [if_pos h3] at h; exact absurd rfl h
    exact Or.inr (Or.inl ⟨k1, L a h1, L b h2, h3⟩)
  rw [if_neg k1] at h
  by_cases k2 : k = 2
  · rw [if_pos k2] at h
    exact Or.inr (Or.inr (Or.inl ⟨k2, L a h⟩))
  rw [if_neg k2] at h
  by_cases k3 : k = 3
  · rw [if_pos k3] at h
    by_cases h1 : P_X0_isLever a C = 0
    · rw [if_pos h1] at h; exact absurd rfl h
    rw [if_neg h1] at h
    by_cases h2 : P_X1_within b 1 999 C = 0
    · rw [if_pos h2] at h; exact absurd rfl h
    have hx := Classical.not_not.mp fun z => h2 (within0.mpr z)
    obtain ⟨w, hw, rfl⟩ := nI_of (Int32.not_lt.mpr (Int32.le_trans (by decide : (0 : Int32) ≤ 1) hx.1))
    exact Or.inr (Or.inr (Or.inr (Or.inl ⟨k3, L a h1, w, (nI_leI (a := 1) (by decide) hw).mp hx.1, (nI_leI hw (b := 999) (by decide)).mp hx.2, rfl⟩)))
  rw [if_neg k3] at h
  by_cases k4 : k = 4
  · rw [if_pos k4] at h
    obtain ⟨j, hj, rfl⟩ := Classical.not_not.mp fun z => h ((office0 ho c2).mpr z)
    exact Or.inr (Or.inr (Or.inr (Or.inr ⟨k4, j, by omega, rfl⟩)))
  rw [if_neg k4] at h
  exact absurd rfl h
theorem lever01 {x : Int32} : P_X0_isLever x C = 0 ∨ P_X0_isLever x C = 1 := by
  unfold P_X0_isLever P_X1_within
  repeat' split
  all_goals first | exact Or.inl rfl | exact Or.inr rfl
theorem within01 {x a b : Int32} {M : xM} : P_X1_within x a b M = 0 ∨ P_X1_within x a b M = 1 := by
  unfold P_X1_within
  repeat' split
  all_goals first | exact Or.inl rfl | exact Or.inr rfl
theorem tr124 {x1 x2 x3 x4 : Int32} {M : xM} {m n : Nat} (hm : m < 6) (hn : n < 8) (e : M 15 m = nI n) : F_X12_trouble_b124 (nI m) x2 x3 x4 1 M = some (nI n, xset (xset (xset (xset M 16 (m * 8 + n) x2) 17 (m * 8 + n) x3) 18 (m * 8 + n) x4) 15 m (nI (n + 1))) := by
  unfold F_X12_trouble_b124
  have hk : m * 8 + n < 48 := by omega
  rw [if_neg (by decide)]
  simp only [nI_clamp (show m < 2 ^ 31 by omega), if_neg (idx_no2 hm (show 6 ≤ 1000000 by decide)), e, cnt4, nI_clamp (show m * 8 + n < 2 ^ 31 by omega), if_neg (idx_no2 hk (show 48 ≤ 1000000 by decide))]
  have z : (xset (xset (xset M 16 (m * 8 + n) x2) 17 (m * 8 + n) x3) 18 (m * 8 + n) x4) 15 m = nI n := e
  rw [z, add1, show ∀ (M : xM) v, (xset M 15 m v) 15 m = v from fun M v => by simp [xset], sub1 (by omega)]
  rfl
theorem op_trouble (x1 x2 x3 x4 : Int32) (hN : RN C R) (hQ : RQ C R) : ∃ v C' R', F_X11_trouble x1 x2 x3 x4 C = some (v, C') ∧ F_X12_trouble x1 x2 x3 x4 R = some (v, R') ∧ RQ C' R' := by
  have hQ' : RQ C (xset R 0 0 0) := hQ
  obtain ⟨lv, on, sn, ln, mn, tn, tl, kn, ⟨b1, b2, b3, b4, b5, b6, b7, b8, b9⟩, ⟨c1, c2, c3, c4, c5, c6, c7, c8⟩, ⟨r1, r2, r3, r4, r5, r6, r7, r8⟩⟩ := hN
  unfold F_X11_trouble F_X12_trouble F_X5_addFault P_X5_faultsOf
  rw [mach_eq (C := C) (R := xset R 0 0 0) b6 c5 r5, isIn_eq (N := C)]
  have ref : ∀ {e1 : Option (Int32 × xM)} {e2 : Option (Int32 × xM)}, e1 = some (-1, C) → e2 = some (-1, xset R 0 0 0) → ∃ v C' R', (e1.bind fun q1 => some (q1.1, q1.2)) = some (v, C') ∧ e2 = some (v, R') ∧ RQ C' R' := by
    intro e1 e2 h1 h2
    subst h1 h2
    exact ⟨-1, C, xset R 0 0 0, rfl, rfl, hQ'⟩
  by_cases h1 : P_X5_isMachine x1 C = 0
  · exact ref (by rw [if_pos h1]) (by rw [if_pos h1])
  rw [if_neg h1, if_neg h1]
  obtain ⟨m, hm, rfl⟩ := Classical.not_not.mp fun z => h1 ((mach0 b6 c5).mpr z)
  have hm6 : m < 6 := by omega
  obtain ⟨q1, q2, lv', q3, q4, q5⟩ := hQ
  obtain rfl : lv' = lv := (nI_eq (by omega) (by omega)).mp (q4.symm.trans r1)
  obtain ⟨n, hn, e1, e2⟩ := q1 m hm6
  rw [if_neg (idx_no hm6 (by decide)), nI_clamp (by omega), at_ok hm6 (by decide), e1, show (xset R 0 0 0) 15 m = nI n from e2]
  have l8 : (8 : Int32) ≤ nI n ↔ 8 ≤ n := nI_leI (a := 8) (by decide) (by omega)
  by_cases h2 : n = 8
  · exact ref (by rw [if_pos (l8.mpr (by omega))]) (by rw [if_pos ((eq8 (by omega)).mpr h2)])
  rw [if_neg (fun z => h2 (by have := l8.mp z; omega)), if_neg (fun z => h2 ((eq8 (by omega)).mp z))]
  have key : (if P_X1_within x2 0 4 C = 0 then some (-1, xset R 0 0 0) else
    if x2 = 4 then F_X12_trouble_b124 (nI m) x2 x3 x4 (P_X12_isIn x3 0 ((xset R 0 0 0) 0 7 - 1) (xset R 0 0 0)) (xset R 0 0 0)
    else if P_X12_isLever x3 (xset R 0 0 0) = 0 then F_X12_trouble_b123 (nI m) x2 x3 x4 (xset R 0 0 0)
    else if x2 = 0 then (if P_X12_isIn x4 0 1 (xset R 0 0 0) = 0 then F_X12_trouble_b123 (nI m) x2 x3 x4 (xset R 0 0 0) else F_X12_trouble_b119 (nI m) x2 x3 x4 (xset R 0 0 0))
    else if x2 = 1 then (if P_X12_isLever x4 (xset R 0 0 0) = 0 then F_X12_trouble_b123 (nI m) x2 x3 x4 (xset R 0 0 0) else if x3 = x4 then F_X12_trouble_b123 (nI m) x2 x3 x4 (xset R 0 0 0) else F_X12_trouble_b119 (nI m) x2 x3 x4 (xset R 0 0 0))
    else if x2 = 2 then F_X12_trouble_b119 (nI m) x2 x3 x4 (xset R 0 0 0)
    else if P_X12_isIn x4 1 999 (xset R 0 0 0) = 0 then F_X12_trouble_b123 (nI m) x2 x3 x4 (xset R 0 0 0) else F_X12_trouble_b119 (nI m) x2 x3 x4 (xset R 0 0 0)) =
    (if P_X5_canBe x2 x3 x4 C = 0 then some (-1, xset R 0 0 0) else F_X12_trouble_b124 (nI m) x2 x3 x4 1 (xset R 0 0 0)) := by
    have z0 : F_X12_trouble_b123 (nI m) x2 x3 x4 (xset R 0 0 0) = some (-1, xset R 0 0 0) := by
      unfold F_X12_trouble_b123 F_X12_trouble_b124
      rw [if_pos rfl]
    have z1 : F_X12_trouble_b119 (nI m) x2 x3 x4 (xset R 0 0 0) = F_X12_trouble_b124 (nI m) x2 x3 x4 1 (xset R 0 0 0) := rfl
    simp only [z0, z1, lever_eq (C := C) (R := xset R 0 0 0) b2 c1 r1, isIn_eq (N := C), show (xset R 0 0 0) 0 7 = nI on from r2]
    unfold P_X5_canBe P_X0_isOffice
    rw [c2]
    have d01 : ¬ ((1 : Int32) = 0) := by decide
    by_cases k0 : x2 = 0
    · subst k0
      rw [if_neg (show ¬ P_X1_within 0 0 4 C = 0 from by unfold P_X1_within; decide), if_neg (show ¬ ((0 : Int32) = 4) by decide), if_pos (show (0 : Int32) = 0 from rfl), if_pos (show (0 : Int32) = 0 from rfl)]
      repeat' split
      all_goals first | rfl | (exfalso; simp_all) | simp_all
    by_cases k1 : x2 = 1
    · subst k1
      rw [if_neg (show ¬ P_X1_within 1 0 4 C = 0 from by unfold P_X1_within; decide), if_neg (show ¬ ((1 : Int32) = 4) by decide), if_neg k0, if_pos (show (1 : Int32) = 1 from rfl), if_neg k0, if_pos (show (1 : Int32) = 1 from rfl)]
      repeat' split
      all_goals first | rfl | (exfalso; simp_all) | simp_all
    by_cases k2 : x2 = 2
    · subst k2
      rw [if_neg (show ¬ P_X1_within 2 0 4 C = 0 from by unfold P_X1_within; decide), if_neg (show ¬ ((2 : Int32) = 4) by decide), if_neg k0, if_neg k1, if_pos (show (2 : Int32) = 2 from rfl), if_neg k0, if_neg k1, if_pos (show (2 : Int32) = 2 from rfl)]
    by_cases k3 : x2 = 3
    · subst k3
      rw [if_neg (show ¬ P_X1_within 3 0 4 C = 0 from by unfold P_X1_within; decide), if_neg (show ¬ ((3 : Int32) = 4) by decide), if_neg k0, if_neg k1, if_neg k2, if_neg k0, if_neg k1, if_neg k2, if_pos (show (3 : Int32) = 3 from rfl)]
      repeat' split
      all_goals first | rfl | (exfalso; simp_all) | simp_all
    by_cases k4 : x2 = 4
    · subst k4
      rw [if_neg (show ¬ P_X1_within 4 0 4 C = 0 from by unfold P_X1_within; decide), if_pos (show (4 : Int32) = 4 from rfl), if_neg k0, if_neg k1, if_neg k2, if_neg k3, if_pos (show (4 : Int32) = 4 from rfl)]
      rcases within01 (x := x3) (a := 0) (b := nI on - 1) (M := C) with hh | hh
      · rw [hh, if_pos rfl]
        exact z0
      · rw [hh, if_neg d01]
    have hw : P_X1_within x2 0 4 C = 0 := by
      rw [show (4 : Int32) = nI 4 from rfl, within0n (by decide)]
      rintro ⟨j, hj, rfl⟩
      have : j = 0 ∨ j = 1 ∨ j = 2 ∨ j = 3 ∨ j = 4 := by omega
      rcases this with rfl | rfl | rfl | rfl | rfl
      · exact k0 rfl
      · exact k1 rfl
      · exact k2 rfl
      · exact k3 rfl
      · exact k4 rfl
    rw [if_pos hw, if_neg k0, if_neg k1, if_neg k2, if_neg k3, if_neg k4, if_pos rfl]
  by_cases h3 : P_X5_canBe x2 x3 x4 C = 0
  · exact ref (by rw [if_pos h3]) (by rw [key, if_pos h3])
  have hk : m * 8 + n < 48 := by omega
  refine ⟨nI n, xset (xset (xset (xset C 28 (m * 8 + n) x2) 29 (m * 8 + n) x3) 30 (m * 8 + n) x4) 27 m (nI (n + 1)), xset (xset (xset (xset (xset R 0 0 0) 16 (m * 8 + n) x2) 17 (m * 8 + n) x3) 18 (m * 8 + n) x4) 15 m (nI (n + 1)), ?_, ?_, ?_⟩
  · rw [if_neg h3]
    simp only [cnt3, put_ok hk (show 48 ≤ 1000000 by decide), Option.bind_some, add1, put_ok hm6 (show 6 ≤ 1000000 by decide)]
  · rw [key, if_neg h3]
    exact tr124 (x1 := nI m) hm6 (by omega) e2
  · have ok := canBe_ok b2 b3 c1 c2 h3
    refine ⟨fun k hk2 => ?_, fun k hk2 => ?_, lv', q3, q4, fun m' n' f hm' hn' hn8 hf => ?_⟩
    · by_cases e : k = m
      · subst e
        exact ⟨n + 1, by omega, by simp [xset], by simp [xset]⟩
      · obtain ⟨w, hw, w1, w2⟩ := q1 k hk2
        exact ⟨w, hw, by simp [xset, e, w1], by simp [xset, e, w2]⟩
    · obtain ⟨w1, w2, w3⟩ := q2 k hk2
      by_cases e : k = m * 8 + n
      · subst e
        exact ⟨by simp [xset], by simp [xset], by simp [xset]⟩
      · exact ⟨by simp [xset, e, w1], by simp [xset, e, w2], by simp [xset, e, w3]⟩
    · by_cases em : m' = m
      · subst em
        have e9 : n' = n + 1 := (nI_eq (by omega) (by omega)).mp (hn'.symm.trans (by simp [xset]))
        by_cases ef : f = n
        · subst ef
          simpa [xset] using ok
        · have := q5 m' n f hm6 e2 (by omega) (by omega)
          simpa [xset, ef] using this
      · have e9 : R 15 m' = nI n' := by rw [← hn']; simp [xset, em]
        have := q5 m' n' f hm' e9 hn8 hf
        simpa [xset, show ¬ (m' * 8 + f = m * 8 + n) by omega] using this
end TRB
