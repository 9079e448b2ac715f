/-! papers: what is kept, near names -/
section PAP
def dst (R : xM) (q n : Nat) : Nat := ed (fun i => R 32 (8 * q + i)) (fun j => R 31 (8 * n + j)) (R 34 q).toNatClampNeg (R 33 n).toNatClampNeg
def RMk (kn : Nat) (C R : xM) : Prop := kn ≤ 8 ∧ C 9 0 = nI kn ∧ R 0 58 = nI kn ∧
  (∀ n, n < kn → ∃ L : Nat, L ≤ 8 ∧ C 47 n = nI L ∧ R 33 n = nI L ∧ ∀ i, i < L → C 46 (n * 8 + i) = R 31 (8 * n + i)) ∧
  (∀ p h, p < 30 → h < 4 → ∃ L : Nat, L ≤ 8 ∧ C 49 (p * 4 + h) = nI L ∧ R 34 (30 * h + p) = nI L ∧ ∀ i, i < L → C 48 ((p * 4 + h) * 8 + i) = R 32 (8 * (30 * h + p) + i)) ∧
  ∀ p h n, p < 30 → h < 4 → n < kn → C 50 ((p * 4 + h) * 8 + n) = nI (dst R (30 * h + p) n)
def RM (C R : xM) : Prop := ∃ kn : Nat, RMk kn C R
abbrev RMc : List (Nat × Option Nat) := [(9, some 0), (46, none), (47, none), (48, none), (49, none), (50, none)]
abbrev RMr : List (Nat × Option Nat) := [(0, some 58), (31, none), (32, none), (33, none), (34, none)]
theorem RMk_m {kn : Nat} (C R : xM) : RMk kn (msk RMc C) (msk RMr R) ↔ RMk kn C R := Iff.rfl
theorem RM_m (C R : xM) : RM (msk RMc C) (msk RMr R) ↔ RM C R := Iff.rfl
/-- the reference's numbers, but for its own table and what a call sets -/
def PS (R M : xM) : Prop := ∀ k j, k ≠ 35 → ¬ (k = 0 ∧ j = 0) → M k j = R k j
theorem PS.rf {R : xM} : PS R R := fun _ _ _ _ => rfl
theorem PS.x00 {R : xM} : PS R (xset R 0 0 0) := fun k j _ h => by
  unfold xset
  rw [if_neg h]
theorem PS.xfr {R M : xM} (h : PS R M) : xfr [(0, some 0), (35, none)] R M := fun k j hk => h k j (by
  rintro rfl
  exact absurd hk (by simp [xin])) (by
  rintro ⟨rfl, rfl⟩
  exact absurd hk (by simp [xin]))
variable {C R M : xM} {fu kn lim : Nat}
theorem PS.k (hP : PS R M) (hK : RMk kn C R) : RMk kn C M := rel_fr (wc := []) RMk_m hK xfr.rf hP.xfr (by decide) (by decide)
theorem dst_ps (h : PS R M) (q n : Nat) : dst M q n = dst R q n := by
  have a1 : M 31 = R 31 := funext fun j => h 31 j (by decide) (fun z => absurd z.1 (by decide))
  have a2 : M 32 = R 32 := funext fun j => h 32 j (by decide) (fun z => absurd z.1 (by decide))
  have a3 : M 33 = R 33 := funext fun j => h 33 j (by decide) (fun z => absurd z.1 (by decide))
  have a4 : M 34 = R 34 := funext fun j => h 34 j (by decide) (fun z => absurd z.1 (by decide))
  unfold dst
  rw [a1, a2, a3, a4]
theorem ix4 (p h : Nat) : P_X6_reading (nI h) (nI p) M = nI (p * 4 + h) := (congrArg (· + nI h) (pk_mul p 4)).trans (nI_add _ _)
theorem ix30 (h p : Nat) : (30 : Int32) * nI h + nI p = nI (30 * h + p) := (congrArg (· + nI p) (pk_mul 30 h)).trans (nI_add _ _)
theorem dst_le (hK : RMk kn C R) {p h n : Nat} (hp : p < 30) (hh : h < 4) (hn : n < kn) : dst R (30 * h + p) n ≤ 16 := by
  obtain ⟨L, l1, l2, l3, -⟩ := hK.2.2.2.1 n hn
  obtain ⟨L', m1, m2, m3, -⟩ := hK.2.2.2.2.1 p h hp hh
  unfold dst
  have := ed_le (fun i => R 32 (8 * (30 * h + p) + i)) (fun j => R 31 (8 * n + j)) (R 34 (30 * h + p)).toNatClampNeg (R 33 n).toNatClampNeg
  rw [m3, l3, nI_clamp (by omega), nI_clamp (by omega)] at this ⊢
  omega
theorem far_ok (hfu : 70000 ≤ fu) (hK : RMk kn C R) (hP : PS R M) {p h n : Nat} (hp : p < 30) (hh : h < 4) (hn : n < kn) : ∃ M', F_X12_farOf fu (nI (30 * h + p)) (nI n) M = some (nI (dst R (30 * h + p) n), M') ∧ PS R M' := by
  obtain ⟨hk8, k1, k2, k3, k4, k5⟩ := hP.k hK
  obtain ⟨L, l1, l2, l3, -⟩ := k3 n hn
  obtain ⟨L', m1, m2, m3, -⟩ := k4 p h hp hh
  obtain ⟨M', e, hS⟩ := fa_ok (R := M) hfu (show 30 * h + p < 120 by omega) (show n < 8 by omega) m1 l1 m3 l3
  refine ⟨M', ?_, fun k j h1 h2 => (hS k j h1).trans (hP k j h1 h2)⟩
  rw [e, ← dst_ps hP]
  unfold dst
  rw [m3, l3, nI_clamp (by omega), nI_clamp (by omega)]
theorem rd_ok (hK : RMk kn C R) (x1 x2 : Int32) : (P_X6_isRead x1 x2 C = 0 ∧ F_X12_isRead x1 x2 R = some (0, R)) ∨ ∃ h p, h < 4 ∧ p < 30 ∧ x1 = nI h ∧ x2 = nI p ∧ P_X6_isRead x1 x2 C = 1 ∧ F_X12_isRead x1 x2 R = some (1, R) := by
  unfold P_X6_isRead F_X12_isRead P_X12_isPaper P_X6_isRead_b23 P_X6_isRead_b24
  rw [isIn_eq (N := C), isIn_eq (N := C)]
  by_cases g1 : P_X1_within x1 0 3 C = 0
  · rw [if_pos g1, if_pos g1, if_pos rfl]
    exact Or.inl ⟨rfl, rfl⟩
  rw [if_neg g1, if_neg g1]
  by_cases g2 : P_X1_within x2 0 29 C = 0
  · rw [if_pos g2, if_pos g2, if_pos rfl]
    exact Or.inl ⟨rfl, rfl⟩
  rw [if_neg g2, if_neg g2, if_neg (by decide)]
  obtain ⟨h, hh, rfl⟩ := Classical.not_not.mp fun z => g1 ((within0n (n := 3) (by decide)).mpr z)
  obtain ⟨p, hp, rfl⟩ := Classical.not_not.mp fun z => g2 ((within0n (n := 29) (by decide)).mpr z)
  obtain ⟨L, l1, l2, l3, -⟩ := hK.2.2.2.2.1 p h hp hh
  rw [ix4, ix30, at_ok (show p * 4 + h < 120 by omega) (by decide), l2, if_neg (idx_no (show 30 * h + p < 120 by omega) (by decide)), nI_clamp (by omega), l3]
  by_cases g3 : nI L ≤ 0
  · rw [if_pos g3, if_pos g3]
    exact Or.inl ⟨rfl, rfl⟩
  · rw [if_neg g3, if_neg g3]
    exact Or.inr ⟨h, p, hh, hp, rfl, rfl, rfl, rfl⟩
theorem nm_ok {M : xM} (hk : kn ≤ 8) (c : C 9 0 = nI kn) (r : M 0 58 = nI kn) (x : Int32) : (P_X6_isName x C = 0 ∧ P_X12_isIn x 0 ((M 0 58) - 1) M = 0) ∨ ∃ n, n < kn ∧ x = nI n ∧ ¬ P_X6_isName x C = 0 ∧ ¬ P_X12_isIn x 0 ((M 0 58) - 1) M = 0 := by
  unfold P_X6_isName
  rw [isIn_eq (N := C), c, r]
  unfold P_X1_within
  rw [idxC (by omega)]
  by_cases g : (if x < 0 then (0 : Int32) else if nI kn ≤ x then 0 else 1) = 0
  · exact Or.inl ⟨g, g⟩
  · obtain ⟨n, hn, e⟩ := Classical.not_not.mp fun z => g ((idx0 (by omega)).mpr z)
    exact Or.inr ⟨n, hn, e, g, g⟩
theorem op_far (hfu : 70000 ≤ fu) (x1 x2 x3 : Int32) (hM : RM C R) : ∃ R', F_X12_far fu x1 x2 x3 R = some (P_X11_far x1 x2 x3 C, R') := by
  obtain ⟨kn, hK⟩ := hM
  have hK' := PS.x00.k hK
  unfold F_X12_far P_X11_far
  rcases rd_ok hK' x1 x2 with ⟨a1, a2⟩ | ⟨h, p, hh, hp, rfl, rfl, a1, a2⟩
  · rw [a1, a2]
    exact ⟨_, rfl⟩
  · rw [a1, a2]
    simp only [Option.bind_some]
    rw [if_neg (show ¬ (1 : Int32) = 0 by decide), if_neg (show ¬ (1 : Int32) = 0 by decide)]
    rcases nm_ok hK'.1 hK'.2.1 hK'.2.2.1 x3 with ⟨b1, b2⟩ | ⟨n, hn, rfl, b1, b2⟩
    · rw [if_pos b1, if_pos b2]
      exact ⟨_, rfl⟩
    · obtain ⟨M', e, -⟩ := far_ok hfu hK PS.x00 hp hh hn
      have hk8 := hK.1
      rw [if_neg b1, if_neg b2, ix30, e, P_X6_farFrom, ix4, ix8', at_ok (by omega) (by decide), hK.2.2.2.2.2 p h n hp hh hn]
      exact ⟨_, rfl⟩
/-! the names that a reading goes to -/
def mnd (d : Nat → Nat) (lim : Nat) : Nat → Nat
  | 0 => lim
  | n + 1 => min (mnd d lim n) (d n)
def nset (d : Nat → Nat) (v : Nat) : Nat → Nat
  | 0 => 0
  | n + 1 => nset d v n ||| (if d n = v then 2 ^ n else 0)
theorem mnd_le (d : Nat → Nat) (lim : Nat) : ∀ n t, t < n → mnd d lim n ≤ d t := by
  intro n
  induction n with
  | zero => exact fun t h => absurd h (by omega)
  | succ n ih =>
    intro t ht
    rw [mnd]
    by_cases e : t = n
    · subst e
      exact Nat.min_le_right _ _
    · have := ih t (by omega)
      omega
theorem mnd_lim (d : Nat → Nat) (lim : Nat) : ∀ n, mnd d lim n ≤ lim := by
  intro n
  induction n with
  | zero => exact Nat.le_refl _
  | succ n ih =>
    rw [mnd]
    omega
theorem nset_no (d : Nat → Nat) (v : Nat) : ∀ n, (∀ t, t < n → d t ≠ v) → nset d v n = 0 := by
  intro n
  induction n with
  | zero => exact fun _ => rfl
  | succ n ih =>
    intro h
    rw [nset, ih (fun t ht => h t (by omega)), if_neg (h n (by omega))]
    rfl
theorem nset_lt (d : Nat → Nat) (v : Nat) : ∀ n, nset d v n < 2 ^ n := by
  intro n
  induction n with
  | zero => exact Nat.zero_lt_one
  | succ n ih =>
    rw [nset]
    have e : 2 ^ (n + 1) = 2 ^ n * 2 := Nat.pow_succ 2 n
    refine Nat.or_lt_two_pow (by omega) ?_
    split
    · have := Nat.two_pow_pos n
      omega
    · exact Nat.two_pow_pos _
theorem or_z (a : Int32) : a ||| 0 = a := by
  apply tb_ext
  intro p hp
  rw [tb_or, tb_0, Bool.or_false]
/-- the set of names for the reading of a hand on a paper -/
def gos (R : xM) (kn lim p h : Nat) : Nat := nset (dst R (30 * h + p)) (mnd (dst R (30 * h + p)) lim kn) kn
theorem gos_lt (R : xM) (kn lim p h : Nat) : gos R kn lim p h < 2 ^ kn := nset_lt _ _ _
theorem goC_ok (hfu : 70000 ≤ fu) (hK : RMk kn C R) (hl : lim ≤ 8) (c91 : C 9 1 = nI lim) {p h : Nat} (hp : p < 30) (hh : h < 4) : F_X6_nearest fu (nI h) (nI p) C = some (nI (gos R kn lim p h), C) := by
  have hk8 := hK.1
  generalize hd : dst R (30 * h + p) = d
  have hdl : ∀ n, n < kn → d n ≤ 16 := fun n hn => hd ▸ dst_le hK hp hh hn
  have loop : ∀ k i n1, i + k = kn → k < n1 → F_X6_nearest_b11 fu (nI h) (nI p) n1 (nI (mnd d lim i)) (nI (nset d (mnd d lim i) i)) (nI i) C = some (nI (nset d (mnd d lim kn) kn), C) := by
    intro k
    induction k with
    | zero =>
      intro i n1 hk hn1
      obtain ⟨n1, rfl⟩ : ∃ z, n1 = z + 1 := ⟨n1 - 1, by omega⟩
      obtain rfl : i = kn := by omega
      rw [F_X6_nearest_b11, hK.2.1, if_pos (nI_le (Nat.le_refl _) (by omega))]
    | succ k ih =>
      intro i n1 hk hn1
      obtain ⟨n1, rfl⟩ : ∃ z, n1 = z + 1 := ⟨n1 - 1, by omega⟩
      have I := ih (i + 1) n1 (by omega) (by omega)
      have e1 : P_X6_farFrom (nI h) (nI p) (nI i) C = nI (d i) := by
        rw [P_X6_farFrom, ix4, ix8', at_ok (by omega) (by decide), hK.2.2.2.2.2 p h i hp hh (by omega), hd]
      have l1 := hdl i (by omega)
      have l2 := mnd_lim d lim i
      rw [F_X6_nearest_b11, hK.2.1, if_neg (show ¬ nI kn ≤ nI i from nI_ge (by omega) (by omega)), e1]
      simp only [F_X6_nearest_b42, F_X6_nearest_b58, add1, bit_eq (show i ≤ 30 by omega), p2 (show i ≤ 16 by omega)]
      by_cases g : mnd d lim i ≤ d i
      · have em : mnd d lim (i + 1) = mnd d lim i := by
          rw [mnd]
          omega
        rw [em, nset] at I
        rw [if_pos (nI_le g (by omega))]
        by_cases g2 : d i = mnd d lim i
        · rw [if_pos g2] at I
          rw [if_pos (congrArg nI g2), or_nI]
          exact I
        · rw [if_neg g2, Nat.or_zero] at I
          rw [if_neg (fun z => g2 ((nI_eq (by omega) (by omega)).mp z))]
          exact I
      · have em : mnd d lim (i + 1) = d i := by
          rw [mnd]
          omega
        have ez : nset d (d i) i = 0 := nset_no d _ i (fun t ht z => by
          have := mnd_le d lim i t ht
          omega)
        rw [em, nset, ez, if_pos rfl] at I
        rw [if_neg (show ¬ nI (mnd d lim i) ≤ nI (d i) from nI_ge (by omega) (by omega)), if_pos True.intro, show (0 : Int32) = nI 0 from rfl, or_nI]
        exact I
  rw [F_X6_nearest, c91, gos, hd]
  exact loop kn 0 fu (by omega) (by omega)
theorem goR_ok (hfu : 70000 ≤ fu) (hK : RMk kn C R) (hl : lim ≤ 8) (r59 : R 0 59 = nI lim) (hP : PS R M) {p h : Nat} (hp : p < 30) (hh : h < 4) : ∃ M', F_X12_goesOf fu (nI (30 * h + p)) M = some (nI (gos R kn lim p h), M') ∧ PS R M' := by
  have hk8 := hK.1
  have hdl : ∀ n, n < kn → dst R (30 * h + p) n ≤ 16 := fun n hn => dst_le hK hp hh hn
  have hfar : ∀ n M, n < kn → PS R M → ∃ M', F_X12_farOf fu (nI (30 * h + p)) (nI n) M = some (nI (dst R (30 * h + p) n), M') ∧ PS R M' := fun n M hn hP => far_ok hfu hK hP hp hh hn
  have h58 : ∀ M, PS R M → M 0 58 = nI kn := fun M hP => (hP 0 58 (by decide) (by decide)).trans hK.2.2.1
  generalize hd : dst R (30 * h + p) = d at hdl hfar
  have loop2 : ∀ k i n1 v M, i + k = kn → k < n1 → v ≤ 8 → PS R M → ∃ M', F_X12_goesOf_b37 fu (nI (30 * h + p)) n1 (nI v) (nI (nset d v i)) (nI i) M = some (nI (nset d v kn), M') ∧ PS R M' := by
    intro k
    induction k with
    | zero =>
      intro i n1 v M hk hn1 hv hP
      obtain ⟨n1, rfl⟩ : ∃ z, n1 = z + 1 := ⟨n1 - 1, by omega⟩
      obtain rfl : i = kn := by omega
      rw [F_X12_goesOf_b37, h58 M hP, if_pos (nI_le (Nat.le_refl _) (by omega))]
      exact ⟨M, rfl, hP⟩
    | succ k ih =>
      intro i n1 v M hk hn1 hv hP
      obtain ⟨n1, rfl⟩ : ∃ z, n1 = z + 1 := ⟨n1 - 1, by omega⟩
      obtain ⟨M1, e1, hP1⟩ := hfar i M (by omega) hP
      have I := ih (i + 1) n1 v M1 (by omega) (by omega) hv hP1
      have l1 := hdl i (by omega)
      rw [F_X12_goesOf_b37, h58 M hP, if_neg (show ¬ nI kn ≤ nI i from nI_ge (by omega) (by omega)), e1]
      simp only [Option.bind_some, F_X12_goesOf_b66, add1, p2 (show i ≤ 16 by omega)]
      rw [nset] at I
      by_cases g2 : d i = v
      · rw [if_pos g2] at I
        rw [if_pos (congrArg nI g2), or_nI]
        exact I
      · rw [if_neg g2] at I
        rw [if_neg (fun z => g2 ((nI_eq (by omega) (by omega)).mp z)), show (0 : Int32) = nI 0 from rfl, or_nI]
        exact I
  have loop1 : ∀ k i n1 M, i + k = kn → k < n1 → PS R M → ∃ M', F_X12_goesOf_b7 fu (nI (30 * h + p)) n1 (nI (mnd d lim i)) (nI i) M = some (nI (nset d (mnd d lim kn) kn), M') ∧ PS R M' := by
    intro k
    induction k with
    | zero =>
      intro i n1 M hk hn1 hP
      obtain ⟨n1, rfl⟩ : ∃ z, n1 = z + 1 := ⟨n1 - 1, by omega⟩
      obtain rfl : i = kn := by omega
      rw [F_X12_goesOf_b7, h58 M hP, if_pos (nI_le (Nat.le_refl _) (by omega))]
      exact loop2 i 0 fu _ M (by omega) (by omega) (Nat.le_trans (mnd_lim d lim i) hl) hP
    | succ k ih =>
      intro i n1 M hk hn1 hP
      obtain ⟨n1, rfl⟩ : ∃ z, n1 = z + 1 := ⟨n1 - 1, by omega⟩
      obtain ⟨M1, e1, hP1⟩ := hfar i M (by omega) hP
      have l1 := hdl i (by omega)
      have l2 := mnd_lim d lim i
      rw [F_X12_goesOf_b7, h58 M hP, if_neg (show ¬ nI kn ≤ nI i from nI_ge (by omega) (by omega)), e1]
      simp only [Option.bind_some, add1]
      rw [jmin_nI (by omega) (by omega)]
      exact ih (i + 1) n1 M1 (by omega) (by omega) hP1
  rw [F_X12_goesOf, hP 0 59 (by decide) (by decide), r59, gos, hd]
  exact loop1 kn 0 fu M (by omega) (by omega) hP
theorem op_goes (hfu : 70000 ≤ fu) (x1 x2 : Int32) (hM : RM C R) (hI : RI C R) : ∃ v R', F_X11_goes fu x1 x2 C = some (v, C) ∧ F_X12_goes fu x1 x2 R = some (v, R') := by
  obtain ⟨kn, hK⟩ := hM
  obtain ⟨lim, hl, c91, r59⟩ := hI
  have hK' := PS.x00.k hK
  unfold F_X12_goes F_X11_goes
  rcases rd_ok hK' x1 x2 with ⟨a1, a2⟩ | ⟨h, p, hh, hp, rfl, rfl, a1, a2⟩
  · rw [a1, a2]
    exact ⟨_, _, rfl, rfl⟩
  · rw [a1, a2]
    simp only [Option.bind_some]
    rw [if_neg (show ¬ (1 : Int32) = 0 by decide), if_neg (show ¬ (1 : Int32) = 0 by decide)]
    obtain ⟨M', e, -⟩ := goR_ok hfu hK hl r59 PS.x00 hp hh
    rw [ix30, e, goC_ok hfu hK hl c91 hp hh]
    exact ⟨_, _, rfl, rfl⟩
end PAP
