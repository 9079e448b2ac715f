def RU (C R : xM) : Prop := C 3 1 = R 0 17
abbrev RUc : List (Nat × Option Nat) := [(3, some 1)]
abbrev RUr : List (Nat × Option Nat) := [(0, some 17)]
theorem RU_m (C R : xM) : RU (msk RUc C) (msk RUr R) ↔ RU C R := Iff.rfl
def RF (C R : xM) : Prop := ∃ lv on : Nat, lv ≤ 16 ∧ on ≤ 6 ∧ R 0 1 = nI lv ∧ R 0 7 = nI on ∧
  (∀ l, l < 16 → (R 3 l = -1 ∧ tb (C 1 7) l = false ∧ ∀ o, o < on → tb (R 1 o) l = false) ∨ ∃ o, o < on ∧ R 3 l = nI o ∧ tb (C 1 7) l = true ∧ ∀ p, p < on → tb (R 1 p) l = decide (p = o)) ∧
  (∃ a : Nat, a < 2 ^ lv ∧ C 1 7 = nI a) ∧ ∀ o, o < on → ∃ a : Nat, a < 2 ^ lv ∧ R 1 o = nI a
abbrev RFc : List (Nat × Option Nat) := [(1, some 7)]
abbrev RFr : List (Nat × Option Nat) := [(0, some 1), (0, some 7), (1, none), (3, none)]
theorem RF_m (C R : xM) : RF (msk RFc C) (msk RFr R) ↔ RF C R := Iff.rfl
section OFF
variable {C R : xM}
theorem tb_nI {a l : Nat} (hl : l < 32) : tb (nI a) l = a.testBit l := by
  show (BitVec.ofNat 32 a).getLsbD l = _
  rw [BitVec.getLsbD_ofNat, decide_eq_true hl, Bool.true_and]
theorem tb_hi {a l lv : Nat} (ha : a < 2 ^ lv) (hl : lv ≤ l) (h32 : l < 32) : tb (nI a) l = false := by
  rw [tb_nI h32]
  exact Nat.testBit_lt_two_pow (Nat.lt_of_lt_of_le ha (Nat.pow_le_pow_right (by decide) hl))
theorem or_nI (a b : Nat) : nI a ||| nI b = nI (a ||| b) := by
  apply tb_ext
  intro p hp
  rw [tb_or, tb_nI hp, tb_nI hp, tb_nI hp, Nat.testBit_or]
theorem and_nI (a b : Nat) : nI a &&& nI b = nI (a &&& b) := by
  apply tb_ext
  intro p hp
  rw [tb_and, tb_nI hp, tb_nI hp, tb_nI hp, Nat.testBit_and]
theorem le10 {n : Nat} (h : n < 2 ^ 31) : ((10 : Int32) ≤ nI n) ↔ 10 ≤ n := nI_leI (a := 10) (by decide) h
theorem op_strap (x1 x2 : Int32) (hN : RN C R) (hP : RP C R) (hB : RB C R) : ∃ v C' R', F_X11_strap x1 x2 C = some (v, C') ∧ F_X12_strap x1 x2 R = some (v, R') ∧ RN C' R' ∧ RP C' R' ∧ RB C' R' := by
  have hN' : RN C (xset R 0 0 0) := hN
  have hP' : RP C (xset R 0 0 0) := hP
  have hB' := x00 RB_m hB rfl
  obtain ⟨lv, on, sn, ln, mn, tn, tl, kn, ⟨b1, b2, b3, b4, b5, b6, b7, b8, b9⟩, ⟨c1, c2, c3, c4, c5, c6, c7, c8⟩, ⟨r1, r2, r3, r4, r5, r6, r7, r8⟩⟩ := hN
  unfold F_X11_strap F_X12_strap F_X0_addStrap
  rw [row_eq (C := C) (R := xset R 0 0 0) b2 c1 r1, bc_eq x1 (xset R 0 0 0) C, isIn_eq (N := C), show (xset R 0 0 0) 0 8 = nI sn from r3, c3]
  by_cases h0 : sn = 10
  · subst h0
    rw [if_pos (show nI 10 = 10 from rfl)]
    refine ⟨-1, C, xset R 0 0 0, ?_, rfl, hN', hP', hB'⟩
    by_cases h1 : P_X0_isRow x1 C = 0
    · rw [if_pos h1]; rfl
    · rw [if_neg h1]
      by_cases h2 : x1 = 0
      · rw [if_pos h2]; rfl
      · rw [if_neg h2, if_pos (show (10 : Int32) ≤ nI 10 by decide)]; rfl
  rw [if_neg (show ¬ nI sn = 10 from fun z => h0 ((nI_eq (b := 10) (by omega) (by decide)).mp z)), if_neg (show ¬ (10 : Int32) ≤ nI sn from fun z => h0 (by have := (le10 (n := sn) (by omega)).mp z; omega))]
  by_cases h1 : P_X0_isRow x1 C = 0
  · exact ⟨-1, C, xset R 0 0 0, by rw [if_pos h1]; rfl, by rw [if_pos h1], hN', hP', hB'⟩
  rw [if_neg h1, if_neg h1]
  by_cases h2 : x1 = 0
  · exact ⟨-1, C, xset R 0 0 0, by rw [if_pos h2]; rfl, by rw [if_pos h2], hN', hP', hB'⟩
  rw [if_neg h2, if_neg h2]
  by_cases h3 : P_X1_within x2 0 (P_J6_bitCount_0f7a4 x1 C) C = 0
  · exact ⟨-1, C, xset R 0 0 0, by rw [if_pos h3]; rfl, by rw [if_pos h3], hN', hP', hB'⟩
  rw [if_neg h3, if_neg h3]
  obtain ⟨a, ha, rfl⟩ := Classical.not_not.mp fun z => h1 ((row0 b2 c1).mpr z)
  obtain ⟨bc, hbc, ebc⟩ := bcn (nI a) C
  rw [ebc] at h3
  obtain ⟨w, hw, rfl⟩ := Classical.not_not.mp fun z => h3 ((within0n (by omega)).mpr z)
  have hs : sn < 10 := by omega
  have hb := p2b b2
  refine ⟨nI sn, xset (xset (xset (xset C 13 sn (nI a)) 14 sn (nI w)) 1 8 1) 1 2 (nI (sn + 1)), xset (xset (xset (xset R 0 0 0) 4 sn (nI a)) 5 sn (nI w)) 0 8 (nI (sn + 1)), ?_, ?_, ?_, ?_, ?_⟩
  · rw [put_ok hs (by decide)]
    simp only [Option.bind_some]
    rw [show (xset C 13 sn (nI a)) 1 2 = nI sn from c3, put_ok hs (by decide)]
    simp only [Option.bind_some]
    rw [show (xset (xset (xset C 13 sn (nI a)) 14 sn (nI w)) 1 8 1) 1 2 = nI sn from c3, add1]
  · simp only [nI_clamp (show sn < 2 ^ 31 by omega), if_neg (idx_no2 hs (show 10 ≤ 1000000 by decide)),
      show ∀ v, (xset (xset R 0 0 0) 4 sn v) 0 8 = nI sn from fun v => r3, show ∀ v w, (xset (xset (xset R 0 0 0) 4 sn v) 5 sn w) 0 8 = nI sn from fun v w => r3, add1]
    rw [show ∀ (M : xM) v, (xset M 0 8 v) 0 8 = v from fun M v => by simp [xset], sub1 (by omega)]
    rfl
  · exact ⟨lv, on, sn + 1, ln, mn, tn, tl, kn, ⟨b1, b2, b3, by omega, b5, b6, b7, b8, b9⟩, ⟨c1, c2, rfl, c4, c5, c6, c7, c8⟩, ⟨r1, r2, rfl, r4, r5, r6, r7, r8⟩⟩
  · obtain ⟨q1, q2, q3⟩ := hP
    refine ⟨fun k hk => ?_, fun k hk => ?_, fun k hk => ?_⟩
    · by_cases e : k = sn
      · subst e
        exact ⟨by simp [xset], by simp [xset]⟩
      · exact ⟨by simp [xset, e, (q1 k hk).1], by simp [xset, e, (q1 k hk).2]⟩
    · by_cases e : k = sn
      · subst e
        exact ⟨a, by omega, by simp [xset]⟩
      · obtain ⟨z, hz, ez⟩ := q2 k hk
        exact ⟨z, hz, by simp [xset, e, ez]⟩
    · by_cases e : k = sn
      · subst e
        exact ⟨w, by omega, by simp [xset]⟩
      · obtain ⟨z, hz, ez⟩ := q3 k hk
        exact ⟨z, hz, by simp [xset, e, ez]⟩
  · exact ⟨lv, on, sn + 1, b2, b3, by omega, r1, r2, rfl, Or.inl (by simp [xset])⟩
theorem op_unstrap (hN : RN C R) (hB : RB C R) : ∃ v C' R', F_X11_unstrap C = some (v, C') ∧ F_X12_unstrap R = some (v, R') ∧ RN C' R' ∧ RB C' R' := by
  have hN' : RN C (xset R 0 0 0) := hN
  have hB' := x00 RB_m hB rfl
  obtain ⟨lv, on, sn, ln, mn, tn, tl, kn, ⟨b1, b2, b3, b4, b5, b6, b7, b8, b9⟩, ⟨c1, c2, c3, c4, c5, c6, c7, c8⟩, ⟨r1, r2, r3, r4, r5, r6, r7, r8⟩⟩ := hN
  unfold F_X11_unstrap F_X12_unstrap F_X0_dropStrap
  rw [show (xset R 0 0 0) 0 8 = nI sn from r3, c3]
  by_cases h : sn = 0
  · subst h
    exact ⟨-1, C, xset R 0 0 0, rfl, rfl, hN', hB'⟩
  have h' : ¬ nI sn = 0 := nI_ne0 (by omega) (by omega)
  rw [if_neg h', if_neg h', sub1 (by omega)]
  refine ⟨nI (sn - 1), xset (xset C 1 2 (nI (sn - 1))) 1 8 1, xset (xset R 0 0 0) 0 8 (nI (sn - 1)), ?_, ?_, ?_, ?_⟩
  · simp [xset]
  · simp [xset]
  · exact ⟨lv, on, sn - 1, ln, mn, tn, tl, kn, ⟨b1, b2, b3, by omega, b5, b6, b7, b8, b9⟩, ⟨c1, c2, rfl, c4, c5, c6, c7, c8⟩, ⟨r1, r2, rfl, r4, r5, r6, r7, r8⟩⟩
  · exact ⟨lv, on, sn - 1, b2, b3, by omega, r1, r2, rfl, Or.inl (by simp [xset])⟩
theorem op_end (x1 : Int32) (hN : RN C R) : ∃ v C' R', F_X11_end x1 C = some (v, C') ∧ F_X12_end x1 R = some (v, R') ∧ RN C' R' := by
  have hN' : RN C (xset R 0 0 0) := hN
  obtain ⟨lv, on, sn, ln, mn, tn, tl, kn, ⟨b1, b2, b3, b4, b5, b6, b7, b8, b9⟩, ⟨c1, c2, c3, c4, c5, c6, c7, c8⟩, ⟨r1, r2, r3, r4, r5, r6, r7, r8⟩⟩ := hN
  unfold F_X11_end F_X12_end
  rw [show (xset R 0 0 0) 0 15 = nI tl from r7, c7]
  by_cases h : P_X1_within x1 0 (nI tl) C = 0
  · refine ⟨0, C, xset R 0 0 0, by rw [if_pos h], ?_, hN'⟩
    have h2 := within0.mp h
    by_cases h3 : x1 < 0
    · rw [if_pos h3]
    · rw [if_neg h3, if_neg (fun z => h2 ⟨Int32.not_lt.mp h3, z⟩)]
  · rw [if_neg h]
    obtain ⟨j, hj, rfl⟩ := Classical.not_not.mp fun z => h ((within0n (by omega)).mpr z)
    rw [if_neg (nI_pos (by omega)), if_pos (nI_le (by omega) (by omega))]
    exact ⟨_, _, _, rfl, rfl, lv, on, sn, ln, mn, tn, j, kn, ⟨b1, b2, b3, b4, b5, b6, b7, by omega, b9⟩, ⟨c1, c2, c3, c4, c5, c6, rfl, c8⟩, ⟨r1, r2, r3, r4, r5, r6, rfl, r8⟩⟩
theorem op_count (x1 : Int32) (hN : RN C R) (hU : RU C R) : F_X12_count x1 R = some (P_X11_count x1 C, xset R 0 0 0) := by
  obtain ⟨lv, on, sn, ln, mn, tn, tl, kn, -, ⟨c1, c2, c3, c4, c5, c6, c7, c8⟩, ⟨r1, r2, r3, r4, r5, r6, r7, r8⟩⟩ := hN
  have u : C 3 1 = (xset R 0 0 0) 0 17 := hU
  unfold F_X12_count P_X11_count
  rw [c1, c2, c3, c4, c5, c6, c7, c8, u, show (xset R 0 0 0) 0 1 = nI lv from r1, show (xset R 0 0 0) 0 7 = nI on from r2, show (xset R 0 0 0) 0 8 = nI sn from r3, show (xset R 0 0 0) 0 16 = nI ln from r4, show (xset R 0 0 0) 0 32 = nI mn from r5, show (xset R 0 0 0) 0 49 = nI tn from r6, show (xset R 0 0 0) 0 15 = nI tl from r7, show (xset R 0 0 0) 0 58 = nI kn from r8]
  generalize (xset R 0 0 0) 0 17 = uu
  generalize xset R 0 0 0 = R'
  repeat' split
  all_goals rfl
theorem ruled0 {lv on : Nat} (hl : lv ≤ 16) (hon : on ≤ 6) (hF : ∀ l, l < 16 → (R 3 l = -1 ∧ tb (C 1 7) l = false ∧ ∀ o, o < on → tb (R 1 o) l = false) ∨ ∃ o, o < on ∧ R 3 l = nI o ∧ tb (C 1 7) l = true ∧ ∀ p, p < on → tb (R 1 p) l = decide (p = o)) {a : Nat} (ha : a < 2 ^ lv) : nI a &&& C 1 7 = 0 ↔ ∀ l, l < lv → tb (nI a) l = true → R 3 l = -1 := by
  constructor
  · intro h l hl2 ht
    have h1 : tb (nI a &&& C 1 7) l = false := by rw [h, tb_0]
    rw [tb_and, ht, Bool.true_and] at h1
    rcases hF l (by omega) with ⟨z, _⟩ | ⟨o, _, _, z, _⟩
    · exact z
    · rw [h1] at z
      exact absurd z (by decide)
  · intro h
    apply tb_ext
    intro p hp
    rw [tb_and, tb_0]
    cases ht : tb (nI a) p with
    | false => rfl
    | true =>
      by_cases hpl : p < lv
      · have h1 := h p hpl ht
        rcases hF p (by omega) with ⟨_, z, _⟩ | ⟨o, ho, z, _⟩
        · rw [z]
          rfl
        · exact absurd (z.symm.trans h1) (nIm1 (by omega))
      · rw [tb_hi ha (by omega) hp] at ht
        exact absurd ht (by decide)
theorem o42_loop {lv a : Nat} (x2 : Int32) {M : xM} (hl : lv ≤ 16) (r1 : M 0 1 = nI lv) (fu : Nat) : ∀ (k i n : Nat), i + k = lv → k < n → (∀ l, l < i → tb (nI a) l = true → M 3 l = -1) →
    ((∀ l, l < lv → tb (nI a) l = true → M 3 l = -1) ∧ F_X12_office_b42 fu (nI a) x2 n (nI i) M = F_X12_office_b78 fu (nI a) x2 fu 0 M) ∨ (¬ (∀ l, l < lv → tb (nI a) l = true → M 3 l = -1) ∧ F_X12_office_b42 fu (nI a) x2 n (nI i) M = some (-1, M)) := by
  intro k
  induction k with
  | zero =>
    intro i n hi hn h
    obtain ⟨n, rfl⟩ : ∃ z, n = z + 1 := ⟨n - 1, by omega⟩
    obtain rfl : i = lv := by omega
    rw [F_X12_office_b42, r1, if_pos (nI_le (by omega) (by omega))]
    exact Or.inl ⟨h, rfl⟩
  | succ k ih =>
    intro i n hi hn h
    obtain ⟨n, rfl⟩ : ∃ z, n = z + 1 := ⟨n - 1, by omega⟩
    rw [F_X12_office_b42, r1, if_neg (nI_ge (by omega) (by omega)), has12_tb (by omega), F_X12_office_b70, if_neg (idx_no (show i < 16 by omega) (by decide)), nI_clamp (by omega), add1]
    cases ht : tb (nI a) i with
    | false =>
      rw [if_neg (show ¬ (false = true) by decide), if_pos (show (0 : Int32) = 0 from rfl)]
      refine ih (i + 1) n (by omega) (by omega) fun l hl2 => ?_
      by_cases e : l = i
      · subst e
        rw [ht]
        exact fun z => absurd z (by decide)
      · exact h l (by omega)
    | true =>
      rw [if_pos (show true = true from rfl), if_neg (show ¬ ((1 : Int32) = 0) by decide)]
      by_cases h5 : M 3 i = -1
      · rw [if_pos h5]
        refine ih (i + 1) n (by omega) (by omega) fun l hl2 hh => ?_
        by_cases e : l = i
        · subst e
          exact h5
        · exact h l (by omega) hh
      · rw [if_neg h5]
        exact Or.inr ⟨fun z => h5 (z i (by omega) ht), rfl⟩
def offSt (M : xM) (a on : Nat) (i : Nat) : xM := fun k j => if k = 3 ∧ j < i ∧ tb (nI a) j = true then nI on else M k j
theorem o78_loop {lv on a : Nat} (x2 : Int32) {M : xM} (hl : lv ≤ 16) (ho : on < 6) (r1 : M 0 1 = nI lv) (r7 : M 0 7 = nI on) (fu : Nat) : ∀ (k i n : Nat), i + k = lv → k < n → F_X12_office_b78 fu (nI a) x2 n (nI i) (offSt M a on i) = some (nI on, xset (xset (xset (offSt M a on lv) 1 on (nI a)) 2 on x2) 0 7 (nI (on + 1))) := by
  have z1 : ∀ i, (offSt M a on i) 0 1 = nI lv := fun i => by simp [offSt, r1]
  have z7 : ∀ i, (offSt M a on i) 0 7 = nI on := fun i => by simp [offSt, r7]
  intro k
  induction k with
  | zero =>
    intro i n hi hn
    obtain ⟨n, rfl⟩ : ∃ z, n = z + 1 := ⟨n - 1, by omega⟩
    obtain rfl : i = lv := by omega
    rw [F_X12_office_b78, z1, if_pos (nI_le (by omega) (by omega))]
    simp only [z7, nI_clamp (show on < 2 ^ 31 by omega), if_neg (idx_no2 ho (show 6 ≤ 1000000 by decide)), show ∀ v, (xset (offSt M a on i) 1 on v) 0 7 = nI on from fun v => z7 i, show ∀ v w, (xset (xset (offSt M a on i) 1 on v) 2 on w) 0 7 = nI on from fun v w => z7 i, add1]
    rw [show ∀ (M : xM) v, (xset M 0 7 v) 0 7 = v from fun M v => by simp [xset], sub1 (by omega)]
    rfl
  | succ k ih =>
    intro i n hi hn
    obtain ⟨n, rfl⟩ : ∃ z, n = z + 1 := ⟨n - 1, by omega⟩
    have I := ih (i + 1) n (by omega) (by omega)
    rw [F_X12_office_b78, z1, if_neg (nI_ge (by omega) (by omega)), has12_tb (by omega), F_X12_office_b104, F_X12_office_b104, if_neg (idx_no (show i < 16 by omega) (by decide)), nI_clamp (by omega), add1, z7]
    cases ht : tb (nI a) i with
    | false =>
      rw [if_neg (show ¬ (false = true) by decide), if_pos (show (0 : Int32) = 0 from rfl)]
      have e : offSt M a on (i + 1) = offSt M a on i := by
        funext k j
        unfold offSt
        by_cases hj : j = i
        · subst hj
          simp [ht]
        · have : (j < i + 1) ↔ j < i := by omega
          simp only [this]
      rw [e] at I
      exact I
    | true =>
      rw [if_pos (show true = true from rfl), if_neg (show ¬ ((1 : Int32) = 0) by decide)]
      have e : offSt M a on (i + 1) = xset (offSt M a on i) 3 i (nI on) := by
        funext k j
        unfold offSt xset
        by_cases hk : k = 3
        · by_cases hj : j = i
          · subst hj
            simp [ht, hk]
          · have : (j < i + 1) ↔ j < i := by omega
            simp only [this, hj, and_false, if_false]
        · simp [hk]
      rw [e] at I
      exact I
theorem op_office {fu : Nat} (hfu : 70000 ≤ fu) (x1 x2 : Int32) (hN : RN C R) (hO : RO C R) (hF : RF C R) (hB : RB C R) : ∃ v C' R', F_X11_office x1 x2 C = some (v, C') ∧ F_X12_office fu x1 x2 R = some (v, R') ∧ RN C' R' ∧ RO C' R' ∧ RF C' R' ∧ RB C' R' := by
  have hN' : RN C (xset R 0 0 0) := hN
  have hO' : RO C (xset R 0 0 0) := hO
  have hF' : RF C (xset R 0 0 0) := hF
  have hB' := x00 RB_m hB rfl
  obtain ⟨lv, on, sn, ln, mn, tn, tl, kn, ⟨b1, b2, b3, b4, b5, b6, b7, b8, b9⟩, ⟨c1, c2, c3, c4, c5, c6, c7, c8⟩, ⟨r1, r2, r3, r4, r5, r6, r7, r8⟩⟩ := hN
  obtain ⟨lv', on', g1, g2, g3, g4, g5, ⟨ru, g6, g6'⟩, g7⟩ := hF
  obtain rfl : lv' = lv := (nI_eq (by omega) (by omega)).mp (g3.symm.trans r1)
  obtain rfl : on' = on := (nI_eq (by omega) (by omega)).mp (g4.symm.trans r2)
  have hb := p2b b2
  unfold F_X11_office F_X12_office F_X0_addOffice
  rw [row_eq (C := C) (R := xset R 0 0 0) b2 c1 r1, bc_eq x1 (xset R 0 0 0) C, isIn_eq (N := C), show (xset R 0 0 0) 0 7 = nI on' from r2, c2]
  have hlt : nI on' < 6 ↔ on' < 6 := nI_ltI (b := 6) (by omega) (by decide)
  have heq : nI on' = 6 ↔ on' = 6 := nI_eq (b := 6) (by omega) (by decide)
  have ref : ∀ {e1 : Option (Int32 × xM)} {e2 : Option (Int32 × xM)}, e1 = some (-1, C) → e2 = some (-1, xset R 0 0 0) → ∃ v C' R', (e1.bind fun q1 => some (q1.1, q1.2)) = some (v, C') ∧ e2 = some (v, R') ∧ RN C' R' ∧ RO C' R' ∧ RF C' R' ∧ RB C' R' := by
    intro e1 e2 h1 h2
    subst h1 h2
    exact ⟨-1, C, xset R 0 0 0, rfl, rfl, hN', hO', hF', hB'⟩
  by_cases h1 : P_X0_isRow x1 C = 0
  · refine ref (by rw [if_pos h1]) ?_
    by_cases h0 : nI on' = 6
    · rw [if_pos h0]
    · rw [if_neg h0, if_pos h1]
  rw [if_neg h1]
  by_cases h2 : x1 = 0
  · refine ref (by rw [if_pos h2]) ?_
    by_cases h0 : nI on' = 6
    · rw [if_pos h0]
    · rw [if_neg h0, if_neg h1, if_pos h2]
  rw [if_neg h2]
  by_cases h0 : on' = 6
  · refine ref ?_ (by rw [if_pos (heq.mpr h0)])
    rw [if_neg (show ¬ nI on' < 6 from fun z => by have := hlt.mp z; omega)]
    split <;> rfl
  have ho : on' < 6 := by omega
  rw [if_pos (hlt.mpr ho), if_neg (show ¬ nI on' = 6 from fun z => h0 (heq.mp z)), if_neg h1, if_neg h2]
  by_cases h3 : P_X1_within x2 1 (P_J6_bitCount_0f7a4 x1 C) C = 0
  · refine ref ?_ (by rw [if_pos h3])
    rw [if_pos h3]
    split <;> rfl
  rw [if_neg h3, if_neg h3]
  obtain ⟨a, ha, rfl⟩ := Classical.not_not.mp fun z => h1 ((row0 b2 c1).mpr z)
  obtain ⟨bc, hbc, ebc⟩ := bcn (nI a) C
  rw [ebc] at h3
  have hx := Classical.not_not.mp fun z => h3 (within0.mpr z)
  obtain ⟨w, hw, rfl⟩ := nI_of (Int32.not_lt.mpr (Int32.le_trans (by decide : (0 : Int32) ≤ 1) hx.1))
  have hw2 : w ≤ bc := (nI_leI hw (by omega)).mp hx.2
  have hru := ruled0 b2 b3 g5 ha
  have z3 : ∀ l, (xset R 0 0 0) 3 l = R 3 l := fun l => rfl
  rcases o42_loop (a := a) (M := xset R 0 0 0) (nI w) b2 r1 fu lv' 0 fu (by omega) (by omega) (fun l hl => absurd hl (by omega)) with ⟨y1, y2⟩ | ⟨y1, y2⟩
  · rw [if_pos (hru.mpr y1)]
    have y3 := o78_loop (a := a) (M := xset R 0 0 0) (nI w) b2 ho r1 r2 fu lv' 0 fu (by omega) (by omega)
    have y0 : offSt (xset R 0 0 0) a on' 0 = xset R 0 0 0 := by
      funext k j
      simp [offSt]
    rw [y0] at y3
    refine ⟨nI on', xset (xset (xset (xset (xset C 11 on' (nI a)) 12 on' (nI w)) 1 7 (C 1 7 ||| nI a)) 1 8 1) 1 1 (nI (on' + 1)), _, ?_, y2.trans y3, ?_, ?_, ?_, ?_⟩
    · rw [put_ok ho (by decide)]
      simp only [Option.bind_some]
      rw [show (xset C 11 on' (nI a)) 1 1 = nI on' from c2, put_ok ho (by decide)]
      simp only [Option.bind_some]
      rw [show (xset (xset C 11 on' (nI a)) 12 on' (nI w)) 1 7 = C 1 7 from rfl, show (xset (xset (xset (xset C 11 on' (nI a)) 12 on' (nI w)) 1 7 (C 1 7 ||| nI a)) 1 8 1) 1 1 = nI on' from c2, add1]
    · exact ⟨lv', on' + 1, sn, ln, mn, tn, tl, kn, ⟨b1, b2, by omega, b4, b5, b6, b7, b8, b9⟩, ⟨c1, rfl, c3, c4, c5, c6, c7, c8⟩, ⟨r1, rfl, r3, r4, r5, r6, r7, r8⟩⟩
    · obtain ⟨q1, q2, q3⟩ := hO
      refine ⟨fun k hk => ?_, fun k hk => ?_, fun k hk => ?_⟩
      · by_cases e : k = on'
        · subst e
          exact ⟨by simp [xset], by simp [xset]⟩
        · exact ⟨by simp [xset, offSt, e, (q1 k hk).1], by simp [xset, offSt, e, (q1 k hk).2]⟩
      · by_cases e : k = on'
        · subst e
          exact ⟨a, by omega, by simp [xset]⟩
        · obtain ⟨z, hz, ez⟩ := q2 k hk
          exact ⟨z, hz, by simp [xset, offSt, e, ez]⟩
      · by_cases e : k = on'
        · subst e
          exact ⟨w, by omega, by simp [xset]⟩
        · obtain ⟨z, hz, ez⟩ := q3 k hk
          exact ⟨z, hz, by simp [xset, offSt, e, ez]⟩
    · refine ⟨lv', on' + 1, b2, by omega, r1, rfl, fun l hl => ?_, ⟨ru ||| a, Nat.or_lt_two_pow g6 ha, by rw [← or_nI, ← g6']; simp [xset]⟩, fun o ho2 => ?_⟩
      · have e7 : (xset (xset (xset (xset (xset C 11 on' (nI a)) 12 on' (nI w)) 1 7 (C 1 7 ||| nI a)) 1 8 1) 1 1 (nI (on' + 1))) 1 7 = C 1 7 ||| nI a := by simp [xset]
        have e3 : (xset (xset (xset (offSt (xset R 0 0 0) a on' lv') 1 on' (nI a)) 2 on' (nI w)) 0 7 (nI (on' + 1))) 3 l = if l < lv' ∧ tb (nI a) l = true then nI on' else R 3 l := by simp [xset, offSt]
        have e1 : ∀ o, (xset (xset (xset (offSt (xset R 0 0 0) a on' lv') 1 on' (nI a)) 2 on' (nI w)) 0 7 (nI (on' + 1))) 1 o = if o = on' then nI a else R 1 o := fun o => by simp [xset, offSt]
        rw [e7, e3, tb_or]
        simp only [e1]
        cases ht : tb (nI a) l with
        | false =>
          rw [if_neg (fun z => absurd z.2 (by decide)), Bool.or_false]
          rcases g5 l hl with ⟨t1, t2, t3⟩ | ⟨o, t1, t2, t3, t4⟩
          · refine Or.inl ⟨t1, t2, fun o ho3 => ?_⟩
            by_cases eo : o = on'
            · rw [if_pos eo]
              exact ht
            · rw [if_neg eo]
              exact t3 o (by omega)
          · refine Or.inr ⟨o, by omega, t2, t3, fun p hp => ?_⟩
            by_cases eo : p = on'
            · rw [if_pos eo, ht]
              exact (decide_eq_false (by omega)).symm
            · rw [if_neg eo]
              exact t4 p (by omega)
        | true =>
          have hll : l < lv' := by
            apply Classical.byContradiction
            intro z
            rw [tb_hi ha (by omega) (by omega)] at ht
            exact absurd ht (by decide)
          rw [if_pos ⟨hll, rfl⟩, Bool.or_true]
          refine Or.inr ⟨on', by omega, rfl, rfl, fun p hp => ?_⟩
          by_cases eo : p = on'
          · rw [if_pos eo, ht]
            exact (decide_eq_true eo).symm
          · rw [if_neg eo, decide_eq_false eo]
            have := y1 l hll ht
            rcases g5 l hl with ⟨t1, t2, t3⟩ | ⟨o, t1, t2, t3, t4⟩
            · exact t3 p (by omega)
            · exact absurd (t2.symm.trans this) (nIm1 (by omega))
      · by_cases e : o = on'
        · subst e
          exact ⟨a, ha, by simp [xset]⟩
        · obtain ⟨z, hz, ez⟩ := g7 o (by omega)
          exact ⟨z, hz, by simp [xset, offSt, e, ez]⟩
    · exact ⟨lv', on' + 1, sn, b2, by omega, b4, r1, rfl, r3, Or.inl (by simp [xset])⟩
  · rw [if_neg (fun z => y1 (hru.mp z))]
    exact ref rfl y2
end OFF
