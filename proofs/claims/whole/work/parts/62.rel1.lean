/-! NUMBERS: indices as natural numbers, what is refused -/
section NUMS
theorem nz {n : Nat} : (OfNat.ofNat n : Int32) = Int32.ofNat n := rfl
theorem idx_no {j n : Nat} (h : j < n) (hn : n ≤ 1000000) : ¬ (nI j < 0 ∨ n ≤ (nI j).toNatClampNeg) := by
  rw [nI_clamp (by omega)]
  rintro (h1 | h1)
  · exact nI_pos (by omega) h1
  · omega
theorem idx_no2 {j n : Nat} (h : j < n) (hn : n ≤ 1000000) : ¬ (nI j < 0 ∨ n ≤ j) := by
  rintro (h1 | h1)
  · exact nI_pos (by omega) h1
  · omega
theorem put_ok {r n j : Nat} {v : Int32} {M : xM} (h : j < n) (hn : n ≤ 1000000) : F_X1_put r n (nI j) v M = some (xset M r j v) := by
  unfold F_X1_put
  rw [if_neg (nI_pos (by omega)), if_neg (show ¬ Int32.ofNat n ≤ nI j from nI_ge h (by omega)), if_neg (idx_no h hn), nI_clamp (by omega)]
theorem at_ok {r n j : Nat} {M : xM} (h : j < n) (hn : n ≤ 1000000) : P_X1_at r n (nI j) M = M r j := by
  unfold P_X1_at
  rw [if_neg (nI_pos (by omega)), if_neg (show ¬ Int32.ofNat n ≤ nI j from nI_ge h (by omega)), nI_clamp (by omega)]
/-- x lies in 0 .. n-1 -/
def inN (x : Int32) (n : Nat) : Prop := ∃ j, j < n ∧ x = nI j
theorem dec_ge {n j : Nat} (hn : n ≤ 1000000) (hj : j < 2 ^ 31) : (nI n - 1 < nI j) ↔ n ≤ j := by
  have e : (nI n - nI 1).toInt = (n : Int) - (1 : Nat) := pk_sub_toInt (by omega) (by decide)
  rw [Int32.lt_iff_toInt_lt, nI_toInt hj]
  have e2 : (nI n - 1).toInt = (n : Int) - 1 := e
  omega
theorem idxC {x : Int32} {n : Nat} (hn : n ≤ 1000000) : (if x < 0 then (0 : Int32) else if nI n - 1 < x then 0 else 1) = (if x < 0 then 0 else if nI n ≤ x then 0 else 1) := by
  by_cases h : x < 0
  · rw [if_pos h, if_pos h]
  · rw [if_neg h, if_neg h]
    obtain ⟨j, hj, rfl⟩ := nI_of h
    have e1 := dec_ge hn hj
    have e2 : nI n ≤ nI j ↔ n ≤ j := nI_leI (by omega) hj
    by_cases h2 : n ≤ j
    · rw [if_pos (e1.mpr h2), if_pos (e2.mpr h2)]
    · rw [if_neg (fun z => h2 (e1.mp z)), if_neg (fun z => h2 (e2.mp z))]
theorem idx0 {x : Int32} {n : Nat} (hn : n ≤ 1000000) : (if x < 0 then (0 : Int32) else if nI n ≤ x then 0 else 1) = 0 ↔ ¬ inN x n := by
  by_cases h : x < 0
  · rw [if_pos h]
    refine ⟨fun _ => ?_, fun _ => rfl⟩
    rintro ⟨j, hj, rfl⟩
    exact nI_pos (by omega) h
  · rw [if_neg h]
    obtain ⟨j, hj, rfl⟩ := nI_of h
    have e2 : nI n ≤ nI j ↔ n ≤ j := nI_leI (by omega) hj
    by_cases h2 : n ≤ j
    · rw [if_pos (e2.mpr h2)]
      refine ⟨fun _ => ?_, fun _ => rfl⟩
      rintro ⟨i, hi, e⟩
      have := (nI_eq hj (by omega)).mp e
      omega
    · rw [if_neg (fun z => h2 (e2.mp z))]
      exact ⟨fun z => absurd z (by decide), fun z => absurd ⟨j, by omega, rfl⟩ z⟩
theorem isIn_eq {x a b : Int32} {M N : xM} : P_X12_isIn x a b M = P_X1_within x a b N := rfl
theorem within0 {x a b : Int32} {M : xM} : P_X1_within x a b M = 0 ↔ ¬ (a ≤ x ∧ x ≤ b) := by
  unfold P_X1_within
  by_cases h : x < a
  · rw [if_pos h]
    exact ⟨fun _ z => absurd z.1 (Int32.not_le.mpr h), fun _ => rfl⟩
  · rw [if_neg h]
    by_cases h2 : b < x
    · rw [if_pos h2]
      exact ⟨fun _ z => absurd z.2 (Int32.not_le.mpr h2), fun _ => rfl⟩
    · rw [if_neg h2]
      exact ⟨fun z => absurd z (by decide), fun z => absurd ⟨Int32.not_lt.mp h, Int32.not_lt.mp h2⟩ z⟩
/-- within 0 .. n -/
theorem within0n {x : Int32} {n : Nat} {M : xM} (hn : n < 1000000) : P_X1_within x 0 (nI n) M = 0 ↔ ¬ inN x (n + 1) := by
  rw [within0]
  refine not_congr ⟨fun h => ?_, ?_⟩
  · obtain ⟨j, hj, rfl⟩ := nI_of (Int32.not_lt.mpr h.1)
    exact ⟨j, by have := (nI_leI hj (by omega)).mp h.2; omega, rfl⟩
  · rintro ⟨j, hj, rfl⟩
    exact ⟨nI_pos' (by omega), nI_le (by omega) (by omega)⟩
end NUMS
/-! THE RELATION, in modules; each speaks of its own cells alone -/
def msk (c : List (Nat × Option Nat)) (M : xM) : xM := fun k j => if xin c k j = true then M k j else 0
def xsep (ws c : List (Nat × Option Nat)) : Bool := ws.all (fun p => c.all (fun q => !(p.1 == q.1) || (match p.2, q.2 with
  | some a, some b => !(a == b)
  | _, _ => false)))
theorem xsep_no {ws c : List (Nat × Option Nat)} (hs : xsep ws c = true) {k j : Nat} (h1 : xin ws k j = true) (h2 : xin c k j = true) : False := by
  obtain ⟨p, hp, e1⟩ := List.any_eq_true.mp h1
  obtain ⟨q, hq, e2⟩ := List.any_eq_true.mp h2
  have h3 := List.all_eq_true.mp (List.all_eq_true.mp hs p hp) q hq
  simp only [Bool.and_eq_true, Bool.or_eq_true, beq_iff_eq] at e1 e2
  obtain ⟨p1, p2⟩ := p
  obtain ⟨q1, q2⟩ := q
  obtain ⟨rfl, a⟩ := e1
  obtain ⟨rfl, b⟩ := e2
  rcases a with rfl | rfl
  · simp at h3
  · rcases b with rfl | rfl
    · simp at h3
    · simp at h3
theorem msk_fr {ws c : List (Nat × Option Nat)} {M M' : xM} (h : xfr ws M M') (hs : xsep ws c = true) : msk c M' = msk c M := by
  funext k j
  unfold msk
  by_cases hx : xin c k j = true
  · rw [if_pos hx, if_pos hx]
    refine h k j ?_
    cases hw : xin ws k j with
    | false => rfl
    | true => exact (xsep_no hs hw hx).elim
  · rw [if_neg hx, if_neg hx]
/-- a relation on masked numbers stays where neither side writes its cells -/
theorem rel_fr {c r wc wr : List (Nat × Option Nat)} {P : xM → xM → Prop} (hP : ∀ C R, P (msk c C) (msk r R) ↔ P C R) {C C' R R' : xM} (h : P C R) (hc : xfr wc C C') (hr : xfr wr R R') (h1 : xsep wc c = true) (h2 : xsep wr r = true) : P C' R' := by
  have := (hP C R).mpr h
  rw [← msk_fr hc h1, ← msk_fr hr h2] at this
  exact (hP C' R').mp this
-- the counters of things
def RN (C R : xM) : Prop := ∃ lv on sn ln mn tn tl kn : Nat, (2 ≤ lv ∧ lv ≤ 16 ∧ on ≤ 6 ∧ sn ≤ 10 ∧ ln ≤ 4 ∧ mn ≤ 6 ∧ tn ≤ 8 ∧ tl ≤ 120 ∧ kn ≤ 8) ∧
  (C 1 0 = nI lv ∧ C 1 1 = nI on ∧ C 1 2 = nI sn ∧ C 3 0 = nI ln ∧ C 5 1 = nI mn ∧ C 8 2 = nI tn ∧ C 2 1 = nI tl ∧ C 9 0 = nI kn) ∧
  (R 0 1 = nI lv ∧ R 0 7 = nI on ∧ R 0 8 = nI sn ∧ R 0 16 = nI ln ∧ R 0 32 = nI mn ∧ R 0 49 = nI tn ∧ R 0 15 = nI tl ∧ R 0 58 = nI kn)
abbrev RNc : List (Nat × Option Nat) := [(1, some 0), (1, some 1), (1, some 2), (3, some 0), (5, some 1), (8, some 2), (2, some 1), (9, some 0)]
abbrev RNr : List (Nat × Option Nat) := [(0, some 1), (0, some 7), (0, some 8), (0, some 16), (0, some 32), (0, some 49), (0, some 15), (0, some 58)]
theorem RN_m (C R : xM) : RN (msk RNc C) (msk RNr R) ↔ RN C R := Iff.rfl
-- the LIMIT, ABSENT, TESTS
def RI (C R : xM) : Prop := ∃ v : Nat, v ≤ 8 ∧ C 9 1 = nI v ∧ R 0 59 = nI v
abbrev RIc : List (Nat × Option Nat) := [(9, some 1)]
abbrev RIr : List (Nat × Option Nat) := [(0, some 59)]
theorem RI_m (C R : xM) : RI (msk RIc C) (msk RIr R) ↔ RI C R := Iff.rfl
def RA (C R : xM) : Prop := ∀ l, l < 16 → C 41 l = R 36 l ∧ C 42 l = R 37 l
abbrev RAc : List (Nat × Option Nat) := [(41, none), (42, none)]
abbrev RAr : List (Nat × Option Nat) := [(36, none), (37, none)]
theorem RA_m (C R : xM) : RA (msk RAc C) (msk RAr R) ↔ RA C R := Iff.rfl
-- what is SHOWN, RECOUNTS
def RS (C R : xM) : Prop := (∀ k, k < 96 → C 26 k = R 12 k ∧ ∃ v : Nat, v ≤ 999 ∧ R 12 k = nI v) ∧ (∀ k, k < 96 → ∃ n : Nat, n ≤ 8 ∧ C 31 k = nI n ∧ R 44 k = nI n) ∧ ∀ k, k < 768 → C 32 k = R 45 k ∧ ∃ v : Nat, v ≤ 999 ∧ R 45 k = nI v
abbrev RSc : List (Nat × Option Nat) := [(26, none), (31, none), (32, none)]
abbrev RSr : List (Nat × Option Nat) := [(12, none), (44, none), (45, none)]
theorem RS_m (C R : xM) : RS (msk RSc C) (msk RSr R) ↔ RS C R := Iff.rfl
-- EVENTS
def RE (C R : xM) : Prop := (∀ m, m < 6 → ∃ n : Nat, n ≤ 20 ∧ C 52 m = nI n ∧ R 38 m = nI n) ∧ ∀ k, k < 120 → C 53 k = R 39 k ∧ C 54 k = R 40 k ∧ C 55 k = R 41 k ∧ ∃ t : Nat, t ≤ 9999 ∧ R 39 k = nI t
abbrev REc : List (Nat × Option Nat) := [(52, none), (53, none), (54, none), (55, none)]
abbrev REr : List (Nat × Option Nat) := [(38, none), (39, none), (40, none), (41, none)]
theorem RE_m (C R : xM) : RE (msk REc C) (msk REr R) ↔ RE C R := Iff.rfl
section KEYS
variable {C R : xM} {x : Int32}
theorem lever_eq {lv : Nat} (hl : lv ≤ 16) (h1 : C 1 0 = nI lv) (h2 : R 0 1 = nI lv) : P_X12_isLever x R = P_X0_isLever x C := by
  unfold P_X12_isLever P_X0_isLever P_X1_within
  rw [h1, h2]
  exact (idxC (by omega)).symm
theorem lever0 {lv : Nat} (hl : lv ≤ 16) (h1 : C 1 0 = nI lv) : P_X0_isLever x C = 0 ↔ ¬ inN x lv := by
  unfold P_X0_isLever P_X1_within
  rw [h1, idxC (by omega)]
  exact idx0 (by omega)
theorem mach_eq {mn : Nat} (hl : mn ≤ 6) (h1 : C 5 1 = nI mn) (h2 : R 0 32 = nI mn) : P_X12_isMachine x R = P_X5_isMachine x C := by
  unfold P_X12_isMachine P_X5_isMachine P_X1_within
  rw [h1, h2]
  exact (idxC (by omega)).symm
theorem mach0 {mn : Nat} (hl : mn ≤ 6) (h1 : C 5 1 = nI mn) : P_X5_isMachine x C = 0 ↔ ¬ inN x mn := by
  unfold P_X5_isMachine P_X1_within
  rw [h1, idxC (by omega)]
  exact idx0 (by omega)
end KEYS
theorem op_limit {C R : xM} (x1 : Int32) (hI : RI C R) : ∃ v C' R', F_X11_limit x1 C = some (v, C') ∧ F_X12_limit x1 R = some (v, R') ∧ RI C' R' := by
  obtain ⟨v, hv, h1, h2⟩ := hI
  unfold F_X11_limit F_X12_limit
  rw [isIn_eq (N := C)]
  by_cases h : P_X1_within x1 0 8 C = 0
  · rw [if_pos h, if_pos h]
    exact ⟨_, _, _, rfl, rfl, v, hv, h1, h2⟩
  · rw [if_neg h, if_neg h]
    have h3 : inN x1 9 := Classical.not_not.mp fun z => h ((within0n (n := 8) (by decide)).mpr z)
    obtain ⟨j, hj, rfl⟩ := h3
    exact ⟨_, _, _, rfl, rfl, j, by omega, rfl, rfl⟩
theorem op_absent {C R : xM} (x1 x2 x3 : Int32) (hN : RN C R) (hA : RA C R) : ∃ v C' R', F_X11_absent x1 x2 x3 C = some (v, C') ∧ F_X12_absent x1 x2 x3 R = some (v, R') ∧ RA C' R' := by
  obtain ⟨lv, on, sn, ln, mn, tn, tl, kn, ⟨b1, b2, -⟩, ⟨c1, -⟩, ⟨r1, -⟩⟩ := hN
  unfold F_X11_absent F_X12_absent F_X8_setAbsent F_X8_setAbsent_b26 F_X8_setAbsent_b27
  rw [lever_eq (C := C) (R := xset R 0 0 0) (lv := lv) b2 c1 r1]
  simp only [isIn_eq (N := C)]
  by_cases h : P_X0_isLever x1 C = 0
  · refine ⟨0, C, xset R 0 0 0, ?_, by rw [if_pos h], hA⟩
    by_cases h2 : P_X1_within x2 0 9999 C = 0 <;> by_cases h3 : P_X1_within x3 x2 9999 C = 0 <;> simp [h, h2, h3]
  · obtain ⟨j, hj, rfl⟩ := Classical.not_not.mp fun z => h ((lever0 b2 c1).mpr z)
    by_cases h2 : P_X1_within x2 0 9999 C = 0
    · exact ⟨0, C, xset R 0 0 0, by simp [h, h2], by simp [h, h2], hA⟩
    · by_cases h3 : P_X1_within x3 x2 9999 C = 0
      · exact ⟨0, C, xset R 0 0 0, by simp [h, h2, h3], by simp [h, h2, h3], hA⟩
      · refine ⟨1, xset (xset C 41 j x2) 42 j x3, xset (xset (xset R 0 0 0) 36 j x2) 37 j x3, ?_, ?_, ?_⟩
        · simp [h, h2, h3, put_ok (show j < 16 by omega)]
        · rw [if_neg h, if_neg h2, if_neg h3, if_neg (idx_no (n := 16) (by omega) (by decide)), if_neg (idx_no (n := 16) (by omega) (by decide)), nI_clamp (by omega)]
        · intro l hl
          obtain ⟨a1, a2⟩ := hA l hl
          by_cases e : l = j
          · subst e
            exact ⟨by simp [xset], by simp [xset]⟩
          · exact ⟨by simp [xset, e, a1], by simp [xset, e, a2]⟩
