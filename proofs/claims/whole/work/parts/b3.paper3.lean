/-! papers: what the hands agree on, whether a paper is read, whether unlike -/
section AGR
variable {C R M : xM} {fu kn lim p : Nat}
theorem one_pc : ∀ s, s < 256 → pc s 16 = 1 → ∃ t, t < 8 ∧ s = 2 ^ t := by decide +kernel
theorem one_bit {s : Nat} (hs : s < 256) {M : xM} (h : P_J6_bitCount_0f7a4 (nI s) M = 1) : ∃ t, t < 8 ∧ s = 2 ^ t := by
  rw [bcM, bc_pc (by omega)] at h
  have l := pc_le s 16
  exact one_pc s hs ((nI_eq (a := pc s 16) (b := 1) (by omega) (by decide)).mp h)
theorem and_bits : ∀ a, a < 8 → ∀ b, b < 8 → 2 ^ a &&& 2 ^ b = if a = b then 2 ^ a else 0 := by decide
theorem pw_inj : ∀ a, a < 8 → ∀ b, b < 8 → 2 ^ a = 2 ^ b → a = b := by decide
theorem ntz_eq (x : Int32) (M N : xM) : P_J6_numberOfTrailingZeros_0f7a4 x M = P_J6_numberOfTrailingZeros_0f7a4 x N := rfl
def rdH (R : xM) (p h : Nat) : Prop := ¬ R 34 (30 * h + p) = 0
theorem rd3 (hK : RMk kn C R) (hP : PS R M) {p h : Nat} (hp : p < 30) (hh : h < 4) : (rdH R p h ∧ P_X6_isRead (nI h) (nI p) C = 1 ∧ F_X12_isRead (nI h) (nI p) M = some (1, M)) ∨ (¬ rdH R p h ∧ P_X6_isRead (nI h) (nI p) C = 0 ∧ F_X12_isRead (nI h) (nI p) M = some (0, M)) := by
  obtain ⟨L, l1, l2, l3, -⟩ := hK.2.2.2.2.1 p h hp hh
  have w1 : ¬ P_X1_within (nI h) 0 3 C = 0 := fun z => (within0n (n := 3) (by decide)).mp z ⟨h, hh, rfl⟩
  have w2 : ¬ P_X1_within (nI p) 0 29 C = 0 := fun z => (within0n (n := 29) (by decide)).mp z ⟨p, hp, rfl⟩
  have l4 : M 34 (30 * h + p) = nI L := (hP 34 _ (by decide) (fun z => absurd z.1 (by decide))).trans l3
  unfold P_X6_isRead F_X12_isRead P_X12_isPaper P_X6_isRead_b24 rdH
  rw [isIn_eq (N := C), isIn_eq (N := C), if_neg w1, if_neg w1, if_neg w2, if_neg w2, if_neg (show ¬ (1 : Int32) = 0 by decide), ix4, ix30, at_ok (show p * 4 + h < 120 by omega) (by decide), l2, if_neg (idx_no (show 30 * h + p < 120 by omega) (by decide)), nI_clamp (by omega), l4, l3]
  by_cases g3 : L = 0
  · subst g3
    rw [if_pos (by decide), if_pos (by decide)]
    exact Or.inr ⟨fun z => z rfl, rfl, rfl⟩
  · rw [if_neg (show ¬ nI L ≤ 0 from nI_ge (a := 0) (by omega) (by omega)), if_neg (show ¬ nI L ≤ 0 from nI_ge (a := 0) (by omega) (by omega))]
    exact Or.inl ⟨fun z => g3 ((nI_eq (a := L) (b := 0) (by omega) (by decide)).mp z), rfl, rfl⟩
theorem ag_dead (hfu : 70000 ≤ fu) (hK : RMk kn C R) (hl : lim ≤ 8) (c91 : C 9 1 = nI lim) (hp : p < 30) : ∀ k i n1 (x2 : Int32), i + k = 4 → k < n1 → F_X6_agreedName_b13 fu (nI p) n1 x2 0 (nI i) C = some (-1, C) := by
  intro k
  induction k with
  | zero =>
    intro i n1 x2 hk hn1
    obtain ⟨n1, rfl⟩ : ∃ z, n1 = z + 1 := ⟨n1 - 1, by omega⟩
    obtain rfl : i = 4 := by omega
    rw [F_X6_agreedName_b13, if_pos (by decide), if_pos rfl]
    split <;> rfl
  | succ k ih =>
    intro i n1 x2 hk hn1
    obtain ⟨n1, rfl⟩ : ∃ z, n1 = z + 1 := ⟨n1 - 1, by omega⟩
    rw [F_X6_agreedName_b13, if_neg (show ¬ (4 : Int32) ≤ nI i from nI_ge (b := 4) (by omega) (by decide)), goC_ok hfu hK hl c91 hp (by omega)]
    simp only [Option.bind_some, F_X6_agreedName_b54, F_X6_agreedName_b58, add1]
    have z1 : ∀ g, (0 : Int32) &&& nI g = 0 := fun g => (and_nI 0 g).trans (congrArg nI (Nat.zero_and g))
    rw [z1, show (0 : Int32) &&& 0 = 0 by decide, ih (i + 1) n1 x2 (by omega) (by omega), ih (i + 1) n1 1 (by omega) (by omega)]
    split
    · rfl
    · split <;> rfl
theorem ag_b (hfu : 70000 ≤ fu) (hK : RMk kn C R) (hl : lim ≤ 8) (c91 : C 9 1 = nI lim) (r59 : R 0 59 = nI lim) (hp : p < 30) {t : Nat} (ht : t < 8) : ∀ k i n1, i + k = 4 → k < n1 → ∃ v, F_X6_agreedName_b13 fu (nI p) n1 1 (nI (2 ^ t)) (nI i) C = some (v, C) ∧ ∀ M n2, k < n2 → PS R M → ∃ M', F_X12_agreesOn_b4 fu (nI p) n2 (nI (2 ^ t)) (nI i) M = some (v, M') ∧ PS R M' := by
  have hb : 2 ^ t ≤ 128 := Nat.pow_le_pow_right (n := 2) (by decide) (show t ≤ 7 by omega)
  have hb1 : 1 ≤ 2 ^ t := Nat.one_le_two_pow
  intro k
  induction k with
  | zero =>
    intro i n1 hk hn1
    obtain ⟨n1, rfl⟩ : ∃ z, n1 = z + 1 := ⟨n1 - 1, by omega⟩
    obtain rfl : i = 4 := by omega
    refine ⟨P_J6_numberOfTrailingZeros_0f7a4 (nI (2 ^ t)) C, ?_, fun M n2 hn2 hP => ⟨M, ?_, hP⟩⟩
    · rw [F_X6_agreedName_b13, if_pos (by decide), if_neg (by decide), if_neg (fun z => by
        have := (nI_eq (a := 2 ^ t) (b := 0) (by omega) (by decide)).mp z
        omega)]
    · obtain ⟨n2, rfl⟩ : ∃ z, n2 = z + 1 := ⟨n2 - 1, by omega⟩
      rw [F_X12_agreesOn_b4, if_pos (by decide), if_neg (nIm1 (by omega))]
      rfl
  | succ k ih =>
    intro i n1 hk hn1
    obtain ⟨n1, rfl⟩ : ∃ z, n1 = z + 1 := ⟨n1 - 1, by omega⟩
    have hi : i < 4 := by omega
    obtain ⟨v, I1, I2⟩ := ih (i + 1) n1 (by omega) (by omega)
    have n4 : ¬ (4 : Int32) ≤ nI i := nI_ge (b := 4) (by omega) (by decide)
    have gl := gos_lt R kn lim p i
    have kb : 2 ^ kn ≤ 256 := Nat.pow_le_pow_right (n := 2) (by decide) hK.1
    rcases rd3 hK (PS.rf (R := R)) hp hi with ⟨q1, q2, -⟩ | ⟨q1, q2, -⟩
    · by_cases g1 : P_J6_bitCount_0f7a4 (nI (gos R kn lim p i)) C = 1
      · obtain ⟨t', ht', e⟩ := one_bit (by omega) g1
        by_cases g2 : t = t'
        · subst g2
          refine ⟨v, ?_, fun M n2 hn2 hP => ?_⟩
          · rw [F_X6_agreedName_b13, if_neg n4, if_neg (by rw [q2]; decide), goC_ok hfu hK hl c91 hp hi]
            simp only [Option.bind_some, F_X6_agreedName_b54, F_X6_agreedName_b58, add1]
            rw [if_pos g1, e, and_nI, Nat.and_self]
            exact I1
          · obtain ⟨n2, rfl⟩ : ∃ z, n2 = z + 1 := ⟨n2 - 1, by omega⟩
            obtain ⟨M1, e1, hP1⟩ := goR_ok hfu hK hl r59 hP hp hi
            rcases rd3 hK hP hp hi with ⟨-, -, u⟩ | ⟨u, -, -⟩
            · rw [F_X12_agreesOn_b4, if_neg n4, u]
              simp only [Option.bind_some]
              rw [if_neg (show ¬ (1 : Int32) = 0 by decide), ix30, e1]
              simp only [Option.bind_some, F_X12_agreesOn_b55, F_X12_agreesOn_b58, add1]
              rw [if_pos ((bc_eq _ _ _).trans g1), if_neg (nIm1 (by omega)), e, if_pos rfl]
              exact I2 M1 n2 (by omega) hP1
            · exact absurd q1 u
        · refine ⟨-1, ?_, fun M n2 hn2 hP => ?_⟩
          · rw [F_X6_agreedName_b13, if_neg n4, if_neg (by rw [q2]; decide), goC_ok hfu hK hl c91 hp hi]
            simp only [Option.bind_some, F_X6_agreedName_b54, F_X6_agreedName_b58, add1]
            rw [if_pos g1, e, and_nI, and_bits t ht t' ht', if_neg g2]
            exact ag_dead hfu hK hl c91 hp k (i + 1) n1 1 (by omega) (by omega)
          · obtain ⟨n2, rfl⟩ : ∃ z, n2 = z + 1 := ⟨n2 - 1, by omega⟩
            obtain ⟨M1, e1, hP1⟩ := goR_ok hfu hK hl r59 hP hp hi
            rcases rd3 hK hP hp hi with ⟨-, -, u⟩ | ⟨u, -, -⟩
            · refine ⟨M1, ?_, hP1⟩
              rw [F_X12_agreesOn_b4, if_neg n4, u]
              simp only [Option.bind_some]
              rw [if_neg (show ¬ (1 : Int32) = 0 by decide), ix30, e1]
              simp only [Option.bind_some, F_X12_agreesOn_b55, F_X12_agreesOn_b58, add1]
              rw [if_pos ((bc_eq _ _ _).trans g1), if_neg (nIm1 (by omega)), e, if_neg (fun z => g2 (by
                have z2 := (nI_eq (by omega) (by rw [← e]; omega)).mp z
                exact pw_inj t ht t' ht' z2))]
            · exact absurd q1 u
      · refine ⟨-1, ?_, fun M n2 hn2 hP => ?_⟩
        · rw [F_X6_agreedName_b13, if_neg n4, if_neg (by rw [q2]; decide), goC_ok hfu hK hl c91 hp hi]
          simp only [Option.bind_some, F_X6_agreedName_b54, F_X6_agreedName_b58, add1]
          rw [if_neg g1, show nI (2 ^ t) &&& (0 : Int32) = 0 from (and_nI (2 ^ t) 0).trans (congrArg nI (Nat.and_zero _))]
          exact ag_dead hfu hK hl c91 hp k (i + 1) n1 1 (by omega) (by omega)
        · obtain ⟨n2, rfl⟩ : ∃ z, n2 = z + 1 := ⟨n2 - 1, by omega⟩
          obtain ⟨M1, e1, hP1⟩ := goR_ok hfu hK hl r59 hP hp hi
          rcases rd3 hK hP hp hi with ⟨-, -, u⟩ | ⟨u, -, -⟩
          · refine ⟨M1, ?_, hP1⟩
            rw [F_X12_agreesOn_b4, if_neg n4, u]
            simp only [Option.bind_some]
            rw [if_neg (show ¬ (1 : Int32) = 0 by decide), ix30, e1]
            simp only [Option.bind_some]
            rw [if_neg (fun z => g1 ((bc_eq _ _ _).trans z))]
          · exact absurd q1 u
    · refine ⟨v, ?_, fun M n2 hn2 hP => ?_⟩
      · rw [F_X6_agreedName_b13, if_neg n4, if_pos q2, F_X6_agreedName_b58, add1]
        exact I1
      · obtain ⟨n2, rfl⟩ : ∃ z, n2 = z + 1 := ⟨n2 - 1, by omega⟩
        rcases rd3 hK hP hp hi with ⟨u, -, -⟩ | ⟨-, -, u⟩
        · exact absurd u q1
        · rw [F_X12_agreesOn_b4, if_neg n4, u]
          simp only [Option.bind_some, F_X12_agreesOn_b58, add1]
          exact I2 M n2 (by omega) hP
theorem ag_a (hfu : 70000 ≤ fu) (hK : RMk kn C R) (hl : lim ≤ 8) (c91 : C 9 1 = nI lim) (r59 : R 0 59 = nI lim) (hp : p < 30) : ∀ k i n1, i + k = 4 → k < n1 → ∃ v, F_X6_agreedName_b13 fu (nI p) n1 0 (nI (2 ^ kn - 1)) (nI i) C = some (v, C) ∧ ((∀ h, i ≤ h → h < 4 → ¬ rdH R p h) → v = -1) ∧ ∀ M n2, k < n2 → PS R M → ∃ M', F_X12_agreesOn_b4 fu (nI p) n2 (-1) (nI i) M = some (v, M') ∧ PS R M' := by
  intro k
  induction k with
  | zero =>
    intro i n1 hk hn1
    obtain ⟨n1, rfl⟩ : ∃ z, n1 = z + 1 := ⟨n1 - 1, by omega⟩
    obtain rfl : i = 4 := by omega
    refine ⟨-1, ?_, fun _ => rfl, fun M n2 hn2 hP => ⟨M, ?_, hP⟩⟩
    · rw [F_X6_agreedName_b13, if_pos (by decide), if_pos rfl]
    · obtain ⟨n2, rfl⟩ : ∃ z, n2 = z + 1 := ⟨n2 - 1, by omega⟩
      rw [F_X12_agreesOn_b4, if_pos (by decide), if_pos rfl]
  | succ k ih =>
    intro i n1 hk hn1
    obtain ⟨n1, rfl⟩ : ∃ z, n1 = z + 1 := ⟨n1 - 1, by omega⟩
    have hi : i < 4 := by omega
    obtain ⟨v, I1, I0, I2⟩ := ih (i + 1) n1 (by omega) (by omega)
    have n4 : ¬ (4 : Int32) ≤ nI i := nI_ge (b := 4) (by omega) (by decide)
    have gl := gos_lt R kn lim p i
    have kb : 2 ^ kn ≤ 256 := Nat.pow_le_pow_right (n := 2) (by decide) hK.1
    rcases rd3 hK (PS.rf (R := R)) hp hi with ⟨q1, q2, -⟩ | ⟨q1, q2, -⟩
    · by_cases g1 : P_J6_bitCount_0f7a4 (nI (gos R kn lim p i)) C = 1
      · obtain ⟨t', ht', e⟩ := one_bit (by omega) g1
        obtain ⟨v', J1, J2⟩ := ag_b hfu hK hl c91 r59 hp ht' k (i + 1) n1 (by omega) (by omega)
        refine ⟨v', ?_, fun z => absurd q1 (z i (Nat.le_refl _) hi), fun M n2 hn2 hP => ?_⟩
        · rw [F_X6_agreedName_b13, if_neg n4, if_neg (by rw [q2]; decide), goC_ok hfu hK hl c91 hp hi]
          simp only [Option.bind_some, F_X6_agreedName_b54, F_X6_agreedName_b58, add1]
          rw [if_pos g1, and_nI, Nat.and_comm, Nat.and_two_pow_sub_one_of_lt_two_pow gl, e]
          exact J1
        · obtain ⟨n2, rfl⟩ : ∃ z, n2 = z + 1 := ⟨n2 - 1, by omega⟩
          obtain ⟨M1, e1, hP1⟩ := goR_ok hfu hK hl r59 hP hp hi
          rcases rd3 hK hP hp hi with ⟨-, -, u⟩ | ⟨u, -, -⟩
          · rw [F_X12_agreesOn_b4, if_neg n4, u]
            simp only [Option.bind_some]
            rw [if_neg (show ¬ (1 : Int32) = 0 by decide), ix30, e1]
            simp only [Option.bind_some, F_X12_agreesOn_b55, F_X12_agreesOn_b58, add1]
            rw [if_pos ((bc_eq _ _ _).trans g1), if_pos True.intro, e]
            exact J2 M1 n2 (by omega) hP1
          · exact absurd q1 u
      · refine ⟨-1, ?_, fun _ => rfl, fun M n2 hn2 hP => ?_⟩
        · rw [F_X6_agreedName_b13, if_neg n4, if_neg (by rw [q2]; decide), goC_ok hfu hK hl c91 hp hi]
          simp only [Option.bind_some, F_X6_agreedName_b54, F_X6_agreedName_b58, add1]
          rw [if_neg g1, show nI (2 ^ kn - 1) &&& (0 : Int32) = 0 from (and_nI (2 ^ kn - 1) 0).trans (congrArg nI (Nat.and_zero _))]
          exact ag_dead hfu hK hl c91 hp k (i + 1) n1 1 (by omega) (by omega)
        · obtain ⟨n2, rfl⟩ : ∃ z, n2 = z + 1 := ⟨n2 - 1, by omega⟩
          obtain ⟨M1, e1, hP1⟩ := goR_ok hfu hK hl r59 hP hp hi
          rcases rd3 hK hP hp hi with ⟨-, -, u⟩ | ⟨u, -, -⟩
          · refine ⟨M1, ?_, hP1⟩
            rw [F_X12_agreesOn_b4, if_neg n4, u]
            simp only [Option.bind_some]
            rw [if_neg (show ¬ (1 : Int32) = 0 by decide), ix30, e1]
            simp only [Option.bind_some]
            rw [if_neg (fun z => g1 ((bc_eq _ _ _).trans z))]
          · exact absurd q1 u
    · refine ⟨v, ?_, fun z => I0 (fun h h1 h2 => z h (by omega) h2), fun M n2 hn2 hP => ?_⟩
      · rw [F_X6_agreedName_b13, if_neg n4, if_pos q2, F_X6_agreedName_b58, add1]
        exact I1
      · obtain ⟨n2, rfl⟩ : ∃ z, n2 = z + 1 := ⟨n2 - 1, by omega⟩
        rcases rd3 hK hP hp hi with ⟨u, -, -⟩ | ⟨-, -, u⟩
        · exact absurd u q1
        · rw [F_X12_agreesOn_b4, if_neg n4, u]
          simp only [Option.bind_some, F_X12_agreesOn_b58, add1]
          exact I2 M n2 (by omega) hP
theorem ag_ok (hfu : 70000 ≤ fu) (hK : RMk kn C R) (hl : lim ≤ 8) (c91 : C 9 1 = nI lim) (r59 : R 0 59 = nI lim) (hp : p < 30) : ∃ v, F_X6_agreedName fu (nI p) C = some (v, C) ∧ ((∀ h, h < 4 → ¬ rdH R p h) → v = -1) ∧ ∀ M, PS R M → ∃ M', F_X12_agreesOn fu (nI p) M = some (v, M') ∧ PS R M' := by
  obtain ⟨v, h1, h2, h3⟩ := ag_a hfu hK hl c91 r59 hp 4 0 fu (by omega) (by omega)
  have hk8 := hK.1
  refine ⟨v, ?_, fun z => h2 (fun h _ hh => z h hh), fun M hP => h3 M fu (by omega) hP⟩
  rw [F_X6_agreedName, hK.2.1, all_eq (by omega), sub1 (Nat.one_le_two_pow)]
  exact h1
theorem op_agrees (hfu : 70000 ≤ fu) (x1 : Int32) (hM : RM C R) (hI : RI C R) : ∃ v R', F_X11_agrees fu x1 C = some (v, C) ∧ F_X12_agrees fu x1 R = some (v, R') := by
  obtain ⟨kn, hK⟩ := hM
  obtain ⟨lim, hl, c91, r59⟩ := hI
  unfold F_X12_agrees F_X11_agrees P_X12_isPaper
  rw [isIn_eq (N := C)]
  by_cases g : P_X1_within x1 0 29 C = 0
  · rw [if_pos g]
    have z : ∀ h : Int32, P_X6_isRead h x1 C = 0 := by
      intro h
      unfold P_X6_isRead P_X6_isRead_b23 P_X6_isRead_b24
      rw [if_pos g, if_pos rfl]
      split <;> rfl
    have loop : ∀ k i n1, i + k = 4 → k < n1 → F_X6_agreedName_b13 fu x1 n1 0 (P_X1_all (C 9 0) C) (nI i) C = some (-1, C) := by
      intro k
      induction k with
      | zero =>
        intro i n1 hk hn1
        obtain ⟨n1, rfl⟩ : ∃ z, n1 = z + 1 := ⟨n1 - 1, by omega⟩
        obtain rfl : i = 4 := by omega
        rw [F_X6_agreedName_b13, if_pos (by decide), if_pos rfl]
      | succ k ih =>
        intro i n1 hk hn1
        obtain ⟨n1, rfl⟩ : ∃ z, n1 = z + 1 := ⟨n1 - 1, by omega⟩
        rw [F_X6_agreedName_b13, if_neg (show ¬ (4 : Int32) ≤ nI i from nI_ge (b := 4) (by omega) (by decide)), if_pos (z _), F_X6_agreedName_b58, add1]
        exact ih (i + 1) n1 (by omega) (by omega)
    rw [show F_X6_agreedName fu x1 C = _ from loop 4 0 fu (by omega) (by omega)]
    exact ⟨_, _, rfl, rfl⟩
  · obtain ⟨p, hp, rfl⟩ := Classical.not_not.mp fun z => g ((within0n (n := 29) (by decide)).mpr z)
    obtain ⟨v, h1, -, h3⟩ := ag_ok hfu hK hl c91 r59 hp
    obtain ⟨M', h4, -⟩ := h3 _ PS.x00
    rw [if_neg g, h1, h4]
    exact ⟨_, _, rfl, rfl⟩
end AGR
