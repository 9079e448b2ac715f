/-! LAWS, BOOKS and VOTERS in the relation -/
def tx (R : xM) (l : Nat) : Nat → Nat := fun i => if i < 120 then (R 8 (l * 120 + i) &&& 255).toBitVec.toNat else 0
def bks (R : xM) (m : Nat) : Nat → Int32 := fun j => R 11 (m * 5 + j)
def vot (fu : Nat) (R : xM) (m : Nat) (l : Int32) : Int32 := if l = -1 then R 11 (m * 5) else jmax 0 (jmin 999 (wv fu (R 9 l.toNatClampNeg).toNatClampNeg (tx R l.toNatClampNeg) (bks R m)))
def okL (x : Int32) (ln : Nat) : Prop := x = -1 ∨ ∃ l, l < ln ∧ x = nI l
def LG (fu : Nat) (R : xM) (ln : Nat) : Prop := ∀ l, l < ln → ∃ n : Nat, n ≤ 120 ∧ R 9 l = nI n ∧ wf fu n (tx R l) = -1
def RK (C R : xM) : Prop := ∀ k, k < 30 → C 22 k = R 11 k ∧ ∃ v : Nat, v ≤ 999 ∧ R 11 k = nI v
def LH (fu ln : Nat) (C R : xM) : Prop := ln ≤ 4 ∧ C 3 0 = nI ln ∧ R 0 16 = nI ln ∧ RLw C R ∧ LG fu R ln ∧ RK C R
abbrev LHc : List (Nat × Option Nat) := [(3, some 0), (18, none), (19, none), (22, none)]
abbrev LHr : List (Nat × Option Nat) := [(0, some 16), (8, none), (9, none), (11, none)]
theorem LH_m (fu ln : Nat) (C R : xM) : LH fu ln (msk LHc C) (msk LHr R) ↔ LH fu ln C R := Iff.rfl
theorem vot_m (fu : Nat) (R : xM) (m : Nat) (l : Int32) : vot fu (msk LHr R) m l = vot fu R m l := rfl
/-- what both sides know of LAWS, and the VOTERS that the class keeps -/
def RY (fu : Nat) (C R : xM) : Prop := ∃ ln mn : Nat, LH fu ln C R ∧ mn ≤ 6 ∧ R 0 32 = nI mn ∧ C 3 1 = R 0 17 ∧ okL (R 0 17) ln ∧ ∀ m, m < mn → C 23 m = vot fu R m (R 0 17)
abbrev RYc : List (Nat × Option Nat) := [(3, some 0), (3, some 1), (18, none), (19, none), (22, none), (23, none)]
abbrev RYr : List (Nat × Option Nat) := [(0, some 16), (0, some 17), (0, some 32), (8, none), (9, none), (11, none)]
theorem RY_m (fu : Nat) (C R : xM) : RY fu (msk RYc C) (msk RYr R) ↔ RY fu C R := Iff.rfl
section LAWREL
variable {C R : xM} {fu ln : Nat}
theorem pk_tb {x : Nat} (h : x < 256) : (sb x &&& 255).toBitVec.toNat = x := by
  rw [sb255 x h, pk_tn (by omega)]
theorem tx_ok (hL : RLw C R) {l : Nat} (hl : l < 4) {i : Nat} (hi : i < 120) : tx R l i < 256 ∧ C 18 (l * 120 + i) = nI (tx R l i) ∧ R 8 (l * 120 + i) = sb (tx R l i) := by
  obtain ⟨x, hx, e1, e2⟩ := hL.1 (l * 120 + i) (by omega)
  have e : tx R l i = x := by
    unfold tx
    rw [if_pos hi, e2, pk_tb hx]
  rw [e]
  exact ⟨hx, e1, e2⟩
theorem bks_bnd (hK : RK C R) {m : Nat} (hm : m < 6) : ∀ j, j < 5 → bnd (bks R m j) := fun j hj => by
  obtain ⟨_, v, hv, e⟩ := hK (m * 5 + j) (by omega)
  unfold bks
  rw [e]
  exact nI_bnd (by omega)
theorem cnt5a (a b : Nat) : 5 * nI a + nI b = nI (a * 5 + b) := by rw [show (5 : Int32) = nI 5 from rfl, pk_mul, nI_add, Nat.mul_comm]
theorem cnt5b (a : Nat) : 5 * nI a = nI (a * 5) := by rw [show (5 : Int32) = nI 5 from rfl, pk_mul, Nat.mul_comm]
theorem cnt5c (a : Nat) : nI a * 5 = nI (a * 5) := by rw [show (5 : Int32) = nI 5 from rfl, pk_mul]
theorem vot_l {l n m : Nat} (hl : l < 4) (e : R 9 l = nI n) (hn : n ≤ 120) : vot fu R m (nI l) = jmax 0 (jmin 999 (wv fu n (tx R l) (bks R m))) := by
  unfold vot
  rw [if_neg (nIm1 (by omega)), nI_clamp (by omega), e, nI_clamp (by omega)]
theorem isLaw_ok (h : C 3 0 = nI ln) (hl : ln ≤ 4) {x : Int32} : P_X4_isLaw x C = 0 ↔ ¬ inN x ln := by
  unfold P_X4_isLaw
  rw [h]
  exact withinm1 (by omega)
theorem vbC (hfu : 70000 ≤ fu) (hH : LH fu ln C R) {x : Int32} (hx : okL x ln) {m : Nat} (hm : m < 6) : ∃ C', F_X4_votersBy fu x 22 30 (nI (m * 5)) C = some (vot fu R m x, C') := by
  obtain ⟨h1, h2, h3, hL, hG, hK⟩ := hH
  unfold F_X4_votersBy
  rcases hx with rfl | ⟨l, hl, rfl⟩
  · rw [if_pos ((isLaw_ok h2 h1).mpr (by
      rintro ⟨j, hj, e⟩
      exact nIm1 (by omega) e.symm)), at_ok (show m * 5 < 30 by omega) (by decide), (hK _ (by omega)).1]
    exact ⟨C, rfl⟩
  · obtain ⟨n, hn, e9, ew⟩ := hG l hl
    obtain ⟨n', hn', e9a, e9b⟩ := hL.2 l (by omega)
    have en : n' = n := (nI_eq (by omega) (by omega)).mp (e9b.symm.trans e9)
    subst en
    rw [if_neg (fun z => (isLaw_ok h2 h1).mp z ⟨l, hl, rfl⟩), at_ok (show l < 4 by omega) (by decide), e9a, show (120 : Int32) = nI 120 from rfl, pk_mul]
    obtain ⟨C1, f1, g1, g2⟩ := lay_ok (C := C) (r := 18) (n1 := 480) (b := l * 120) (N := n') (by decide) (by decide) hn (by omega) (by decide) hfu
    have fr1 := fr_X3_layText _ _ _ _ _ _ C1 f1
    rw [f1]
    simp only [Option.bind_some]
    obtain ⟨C2, f2, g3⟩ := layB_ok (C := C1) (b := m * 5) (by omega) hfu
    have fr2 := fr_X3_layBooks _ _ _ _ _ C2 f2
    rw [f2]
    simp only [Option.bind_some]
    have hC2 : CT C2 n' (tx R l) := ⟨hn, (fr2 4 3 rfl).trans g1, fun i hi => by
      obtain ⟨t1, t2, t3⟩ := tx_ok hL (show l < 4 by omega) (show i < 120 by omega)
      exact ⟨t1, (fr2 20 i rfl).trans ((g2 i hi).trans t2)⟩⟩
    obtain ⟨v, M', a1, a2, a3⟩ := cls_ok hfu hC2
    have ev : v = wv fu n' (tx R l) (bks R m) := a3 (bks R m) (fun j hj => by
      rw [g3 j hj, show C1 22 (m * 5 + j) = C 22 (m * 5 + j) from fr1 22 (m * 5 + j) rfl, (hK _ (by omega)).1]
      rfl) ew (bks_bnd hK hm)
    rw [a1, vot_l (by omega) e9 hn, ← ev]
    exact ⟨M', rfl⟩
theorem sgn_tab : ∀ i, i < 5 → ¬ ((xtx 1001).getD (nI i).toNatClampNeg 0 < 0 ∨ 128 ≤ ((xtx 1001).getD (nI i).toNatClampNeg 0).toNatClampNeg) ∧ ¬ (nI i < 0 ∨ (xtx 1001).length ≤ (nI i).toNatClampNeg) := by decide
theorem sgn_bk : ∀ c, c < 256 → bk c → ((xtx 1001).getD (nI (bidx c)).toNatClampNeg 0).toNatClampNeg = c := by decide +kernel
theorem sgn_inj : ∀ i, i < 5 → ∀ j, j < 5 → ((xtx 1001).getD (nI i).toNatClampNeg 0).toNatClampNeg = ((xtx 1001).getD (nI j).toNatClampNeg 0).toNatClampNeg → i = j := by decide
theorem lb_loop (hH : LH fu ln C R) (hfu : 70000 ≤ fu) {l m : Nat} (hl : l < ln) (hm : m < 6) : ∀ k i n M, i + k = 5 → k < n → (∀ a j, a ≠ 10 → M a j = R a j) → (∀ j, j < i → M 10 ((xtx 1001).getD (nI j).toNatClampNeg 0).toNatClampNeg = bks R m j) → ∃ R', F_X12_votersBy_b16 fu (nI m) (nI l) n (nI i) M = some (vot fu R m (nI l), R') := by
  obtain ⟨h1, h2, h3, hL, hG, hK⟩ := hH
  intro k
  induction k with
  | zero =>
    intro i n M hi hn hM hT
    obtain ⟨n, rfl⟩ : ∃ z, n = z + 1 := ⟨n - 1, by omega⟩
    obtain rfl : i = 5 := by omega
    obtain ⟨N, hN, e9, ew⟩ := hG l hl
    rw [F_X12_votersBy_b16, if_pos (show (5 : Int32) ≤ nI 5 by decide), if_neg (idx_no (show l < 4 by omega) (by decide)), nI_clamp (by omega), hM 9 l (by decide), e9, show (120 : Int32) * nI l = nI (l * 120) by rw [show (120 : Int32) = nI 120 from rfl, pk_mul, Nat.mul_comm]]
    have hR : RX' (xset (xset (xset M 0 14 (nI 8)) 0 18 (nI (l * 120))) 0 19 (nI N)) N (tx R l) 8 (l * 120) 480 := by
      refine ⟨hN, fun i hi => (tx_ok hL (show l < 4 by omega) (show i < 120 by omega)).1, by decide, by decide, rfl, by omega, by decide, rfl, rfl, rfl, fun i hi => ?_⟩
      show M 8 (l * 120 + i) = _
      rw [hM 8 _ (by decide), (tx_ok hL (show l < 4 by omega) (show i < 120 by omega)).2.2]
    obtain ⟨R', a1, a2, a3⟩ := ref_ok hfu hR
    have ev := a3 (bks R m) (fun c hc => by
      have := hT (bidx c) (bidx_lt c)
      rw [sgn_bk c (by rcases hc with z | z | z | z | z <;> omega) hc] at this
      exact this) ew (bks_bnd hK hm)
    rw [a1]
    simp only [Option.bind_some]
    rw [ev, vot_l (by omega) e9 hN]
    exact ⟨R', rfl⟩
  | succ k ih =>
    intro i n M hi hn hM hT
    obtain ⟨n, rfl⟩ : ∃ z, n = z + 1 := ⟨n - 1, by omega⟩
    obtain ⟨s1, s2⟩ := sgn_tab i (by omega)
    rw [F_X12_votersBy_b16, if_neg (show ¬ (5 : Int32) ≤ nI i from nI_ge (b := 5) (by omega) (by decide)), if_neg s2, cnt5a, if_neg (idx_no (show m * 5 + i < 30 by omega) (by decide)), if_neg s1, nI_clamp (show m * 5 + i < 2 ^ 31 by omega), add1]
    refine ih (i + 1) n _ (by omega) (by omega) (fun a j ha => ?_) (fun j hj => ?_)
    · rw [← hM a j ha]
      unfold xset
      rw [if_neg (fun z => ha z.1)]
    · by_cases e : j = i
      · subst e
        unfold xset
        rw [if_pos ⟨rfl, rfl⟩, hM 11 _ (by decide)]
        rfl
      · rw [← hT j (by omega)]
        unfold xset
        rw [if_neg (fun z => e (sgn_inj j (by omega) i (by omega) z.2))]
theorem vbR (hfu : 70000 ≤ fu) (hH : LH fu ln C R) {x : Int32} (hx : okL x ln) {m : Nat} (hm : m < 6) : ∃ R', F_X12_votersBy fu (nI m) x R = some (vot fu R m x, R') := by
  unfold F_X12_votersBy
  rcases hx with rfl | ⟨l, hl, rfl⟩
  · rw [if_pos rfl, cnt5b, if_neg (idx_no (show m * 5 < 30 by omega) (by decide)), nI_clamp (by omega)]
    exact ⟨R, rfl⟩
  · rw [if_neg (nIm1 (by have := hH.1; omega))]
    exact lb_loop hH hfu hl hm 5 0 fu R (by omega) (by omega) (fun _ _ _ => rfl) (fun j hj => absurd hj (by omega))
theorem clamp999 : ∀ v : Int32, ∃ n : Nat, n ≤ 999 ∧ jmax 0 (jmin 999 v) = nI n := by
  intro v
  by_cases h0 : v < 0
  · refine ⟨0, by decide, ?_⟩
    have e1 : jmin 999 v = v := by
      unfold jmin
      rw [if_pos (Int32.lt_trans h0 (by decide))]
    rw [e1]
    unfold jmax
    rw [if_neg (fun z => Int32.lt_irrefl (Int32.lt_trans z h0))]
    rfl
  · obtain ⟨j, hj, rfl⟩ := nI_of h0
    by_cases h : j ≤ 999
    · refine ⟨j, h, ?_⟩
      have : ∀ j, j ≤ 999 → jmax 0 (jmin 999 (nI j)) = nI j := by decide +kernel
      exact this j h
    · refine ⟨999, Nat.le_refl _, ?_⟩
      have e1 : jmin 999 (nI j) = 999 := by
        unfold jmin
        rw [if_neg (show ¬ nI j < 999 from nI_nlt (a := j) (b := 999) (by omega) hj)]
      rw [e1]
      decide
theorem vot_nat (hH : LH fu ln C R) {x : Int32} {m : Nat} (hm : m < 6) : ∃ n : Nat, n ≤ 999 ∧ vot fu R m x = nI n := by
  unfold vot
  by_cases h : x = -1
  · rw [if_pos h]
    obtain ⟨_, v, hv, e⟩ := hH.2.2.2.2.2 (m * 5) (by omega)
    exact ⟨v, hv, e⟩
  · rw [if_neg h]
    exact clamp999 _
end LAWREL
