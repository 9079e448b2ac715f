/-! OFFICES, STRAPS, TESTS, what was OPENED and COSTS -/
section ROWS
theorem p2 {lv : Nat} (h : lv ≤ 16) : (1 : Int32) <<< (nI lv &&& 31) = nI (2 ^ lv) := by
  have : ∀ i, i ≤ 16 → (1 : Int32) <<< (nI i &&& 31) = nI (2 ^ i) := by decide +kernel
  exact this lv h
theorem p2b {lv : Nat} (h : lv ≤ 16) : 2 ^ lv ≤ 65536 := Nat.pow_le_pow_right (n := 2) (by decide) h
theorem p2p (lv : Nat) : 1 ≤ 2 ^ lv := Nat.one_le_two_pow
theorem all_eq {lv : Nat} (h : lv ≤ 16) {M : xM} : P_X1_all (nI lv) M = nI (2 ^ lv) - 1 := by
  unfold P_X1_all
  rw [bit_eq (by omega), p2 h]
theorem row0 {C : xM} {x : Int32} {lv : Nat} (hl : lv ≤ 16) (h1 : C 1 0 = nI lv) : P_X0_isRow x C = 0 ↔ ¬ inN x (2 ^ lv) := by
  unfold P_X0_isRow
  rw [h1, all_eq hl]
  exact withinm1 (by have := p2b hl; omega)
theorem row_eq {C R : xM} {x : Int32} {lv : Nat} (hl : lv ≤ 16) (h1 : C 1 0 = nI lv) (h2 : R 0 1 = nI lv) : P_X12_isRow x R = P_X0_isRow x C := by
  unfold P_X12_isRow P_X0_isRow P_X1_within
  rw [h1, h2, all_eq hl, p2 hl]
  exact (idxC (by have := p2b hl; omega)).symm
theorem and63 (x : Int32) : ∃ n : Nat, n ≤ 63 ∧ x &&& 63 = nI n := by
  have h : (x &&& 63).toBitVec.toNat ≤ 63 := by
    have : (x &&& 63).toBitVec.toNat = x.toBitVec.toNat &&& 63 := by
      rw [Int32.toBitVec_and, BitVec.toNat_and]
      rfl
    rw [this]
    exact Nat.and_le_right
  refine ⟨(x &&& 63).toBitVec.toNat, h, ?_⟩
  apply Int32.toBitVec_inj.mp
  apply BitVec.eq_of_toNat_eq
  show _ = (BitVec.ofNat 32 _).toNat
  rw [BitVec.toNat_ofNat, Nat.mod_eq_of_lt (by omega)]
theorem bcn (x : Int32) (M : xM) : ∃ n : Nat, n ≤ 63 ∧ P_J6_bitCount_0f7a4 x M = nI n := by
  unfold P_J6_bitCount_0f7a4
  exact and63 _
theorem bc_eq (x : Int32) (M N : xM) : P_J6_bitCount_0f7a4 x M = P_J6_bitCount_0f7a4 x N := rfl
end ROWS
def RC (C R : xM) : Prop := ∃ mn : Nat, mn ≤ 6 ∧ R 0 32 = nI mn ∧ (∀ m, m < mn → C 24 m = R 13 m ∧ C 25 m = R 14 m ∧ ∃ c : Nat, c ≤ 50 ∧ R 14 m = nI c) ∧ ∀ m, mn ≤ m → m < 6 → R 13 m = -1 ∧ R 14 m = 1
abbrev RCc : List (Nat × Option Nat) := [(24, none), (25, none)]
abbrev RCr : List (Nat × Option Nat) := [(0, some 32), (13, none), (14, none)]
theorem RC_m (C R : xM) : RC (msk RCc C) (msk RCr R) ↔ RC C R := Iff.rfl
def RX (C R : xM) : Prop := (∀ t, t < 8 → C 43 t = R 26 t ∧ C 44 t = R 27 t) ∧ (∀ t, t < 8 → ∃ a : Nat, a < 65536 ∧ R 26 t = nI a) ∧ ∀ t, t < 8 → ∃ a : Nat, a ≤ 200 ∧ R 27 t = nI a
abbrev RXc : List (Nat × Option Nat) := [(43, none), (44, none)]
abbrev RXr : List (Nat × Option Nat) := [(26, none), (27, none)]
theorem RX_m (C R : xM) : RX (msk RXc C) (msk RXr R) ↔ RX C R := Iff.rfl
def RP (C R : xM) : Prop := (∀ t, t < 10 → C 13 t = R 4 t ∧ C 14 t = R 5 t) ∧ (∀ t, t < 10 → ∃ a : Nat, a < 65536 ∧ R 4 t = nI a) ∧ ∀ t, t < 10 → ∃ a : Nat, a ≤ 63 ∧ R 5 t = nI a
abbrev RPc : List (Nat × Option Nat) := [(13, none), (14, none)]
abbrev RPr : List (Nat × Option Nat) := [(4, none), (5, none)]
theorem RP_m (C R : xM) : RP (msk RPc C) (msk RPr R) ↔ RP C R := Iff.rfl
section OPS5
variable {C R : xM}
theorem op_cost (x1 x2 : Int32) (hN : RN C R) (hC : RC C R) : ∃ v C' R', F_X11_cost x1 x2 C = some (v, C') ∧ F_X12_cost x1 x2 R = some (v, R') ∧ RC C' R' := by
  obtain ⟨lv, on, sn, ln, mn, tn, tl, kn, ⟨b1, b2, b3, b4, b5, b6, -⟩, ⟨c1, c2, c3, c4, c5, -⟩, ⟨r1, r2, r3, r4, r5, -⟩⟩ := hN
  unfold F_X11_cost F_X12_cost
  rw [mach_eq (C := C) (R := xset R 0 0 0) b6 c5 r5, isIn_eq (N := C)]
  by_cases h1 : P_X5_isMachine x1 C = 0
  · exact ⟨0, C, xset R 0 0 0, by rw [if_pos h1], by rw [if_pos h1], hC⟩
  obtain ⟨m, hm, rfl⟩ := Classical.not_not.mp fun z => h1 ((mach0 b6 c5).mpr z)
  by_cases h2 : P_X1_within x2 1 50 C = 0
  · exact ⟨0, C, xset R 0 0 0, by rw [if_neg h1, if_pos h2], by rw [if_neg h1, if_pos h2], hC⟩
  have hx := Classical.not_not.mp fun z => h2 (within0.mpr z)
  obtain ⟨c, hc, rfl⟩ := nI_of (Int32.not_lt.mpr (Int32.le_trans (by decide : (0 : Int32) ≤ 1) hx.1))
  have hc2 : c ≤ 50 := (nI_leI hc (by decide)).mp hx.2
  refine ⟨1, xset C 25 m (nI c), xset (xset R 0 0 0) 14 m (nI c), ?_, ?_, ?_⟩
  · rw [if_neg h1, if_neg h2, put_ok (show m < 6 by omega) (by decide)]
    rfl
  · rw [if_neg h1, if_neg h2, if_neg (idx_no (show m < 6 by omega) (by decide)), nI_clamp (by omega)]
  · obtain ⟨n, hn, e, q1, q2⟩ := hC
    have en : n = mn := (nI_eq (by omega) (by omega)).mp (e.symm.trans r5)
    subst en
    refine ⟨n, hn, e, fun k hk => ?_, fun k hk hk2 => ?_⟩
    · obtain ⟨a1, a2, w, hw, a3⟩ := q1 k hk
      by_cases ek : k = m
      · subst ek
        exact ⟨by simp [xset, a1], by simp [xset], c, hc2, by simp [xset]⟩
      · exact ⟨by simp [xset, a1], by simp [xset, ek, a2], w, hw, by simp [xset, ek, a3]⟩
    · have ek : k ≠ m := by omega
      obtain ⟨a1, a2⟩ := q2 k hk hk2
      exact ⟨by simp [xset, a1], by simp [xset, ek, a2]⟩
theorem op_test (x1 x2 : Int32) (hN : RN C R) (hX : RX C R) : ∃ v C' R', F_X11_test x1 x2 C = some (v, C') ∧ F_X12_test x1 x2 R = some (v, R') ∧ RN C' R' ∧ RX C' R' := by
  have hN' := hN
  obtain ⟨lv, on, sn, ln, mn, tn, tl, kn, ⟨b1, b2, b3, b4, b5, b6, b7, b8, b9⟩, ⟨c1, c2, c3, c4, c5, c6, c7, c8⟩, ⟨r1, r2, r3, r4, r5, r6, r7, r8⟩⟩ := hN
  unfold F_X11_test F_X12_test F_X10_add
  rw [row_eq (C := C) (R := xset R 0 0 0) b2 c1 r1, isIn_eq (N := C), show (xset R 0 0 0) 0 49 = nI tn from r6, c6]
  by_cases h1 : P_X0_isRow x1 C = 0
  · refine ⟨-1, C, xset R 0 0 0, by rw [if_pos h1]; rfl, ?_, hN', hX⟩
    by_cases h : nI tn = 8
    · rw [if_pos h]
    · rw [if_neg h, if_pos h1]
  obtain ⟨a, ha, rfl⟩ := Classical.not_not.mp fun z => h1 ((row0 b2 c1).mpr z)
  by_cases h2 : P_X1_within x2 0 200 C = 0
  · refine ⟨-1, C, xset R 0 0 0, by rw [if_neg h1, if_pos h2]; rfl, ?_, hN', hX⟩
    by_cases h : nI tn = 8
    · rw [if_pos h]
    · rw [if_neg h, if_neg h1, if_pos h2]
  obtain ⟨w, hw, rfl⟩ := Classical.not_not.mp fun z => h2 ((within0n (n := 200) (by decide)).mpr z)
  by_cases h3 : tn = 8
  · subst h3
    refine ⟨-1, C, xset R 0 0 0, ?_, by rw [if_pos (by decide)], hN', hX⟩
    rw [if_neg h1, if_neg h2, if_neg (by decide)]
    rfl
  have ht : tn < 8 := by omega
  have hb := p2b b2
  refine ⟨nI tn, xset (xset (xset C 43 tn (nI a)) 44 tn (nI w)) 8 2 (nI (tn + 1)), xset (xset (xset (xset R 0 0 0) 26 tn (nI a)) 27 tn (nI w)) 0 49 (nI (tn + 1)), ?_, ?_, ?_, ?_⟩
  · rw [if_neg h1, if_neg h2, if_pos ((lt8 (by omega)).mpr ht), put_ok ht (by decide)]
    simp only [Option.bind_some]
    rw [show (xset C 43 tn (nI a)) 8 2 = nI tn from c6, put_ok ht (by decide)]
    simp only [Option.bind_some]
    rw [show (xset (xset C 43 tn (nI a)) 44 tn (nI w)) 8 2 = nI tn from c6, add1]
  · rw [if_neg (fun z => h3 ((eq8 (by omega)).mp z)), if_neg h1, if_neg h2]
    simp only [nI_clamp (show tn < 2 ^ 31 by omega), if_neg (idx_no2 ht (show 8 ≤ 1000000 by decide)),
      show ∀ v, (xset (xset R 0 0 0) 26 tn v) 0 49 = nI tn from fun v => r6, show ∀ v w, (xset (xset (xset R 0 0 0) 26 tn v) 27 tn w) 0 49 = nI tn from fun v w => r6, add1]
    rw [show ∀ (M : xM) v, (xset M 0 49 v) 0 49 = v from fun M v => by simp [xset], sub1 (by omega)]
    rfl
  · exact ⟨lv, on, sn, ln, mn, tn + 1, tl, kn, ⟨b1, b2, b3, b4, b5, b6, by omega, b8, b9⟩, ⟨c1, c2, c3, c4, c5, rfl, c7, c8⟩, ⟨r1, r2, r3, r4, r5, rfl, r7, r8⟩⟩
  · obtain ⟨q1, q2, q3⟩ := hX
    refine ⟨fun k hk => ?_, fun k hk => ?_, fun k hk => ?_⟩
    · by_cases e : k = tn
      · subst e
        exact ⟨by simp [xset], by simp [xset]⟩
      · exact ⟨by simp [xset, e, (q1 k hk).1], by simp [xset, e, (q1 k hk).2]⟩
    · by_cases e : k = tn
      · subst e
        exact ⟨a, by omega, by simp [xset]⟩
      · obtain ⟨z, hz, ez⟩ := q2 k hk
        exact ⟨z, hz, by simp [xset, e, ez]⟩
    · by_cases e : k = tn
      · subst e
        exact ⟨w, by omega, by simp [xset]⟩
      · obtain ⟨z, hz, ez⟩ := q3 k hk
        exact ⟨z, hz, by simp [xset, e, ez]⟩
end OPS5
