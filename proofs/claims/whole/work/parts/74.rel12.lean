/-! EVENTS gone through: when a MACHINE was open, and where it stood -/
def EVC (C : xM) (m N : Nat) (t q v : Nat → Int32) : Prop := C 52 m = nI N ∧ ∀ i, i < N → C 53 (m * 20 + i) = t i ∧ C 54 (m * 20 + i) = q i ∧ C 55 (m * 20 + i) = v i
def EVR (R : xM) (m N : Nat) (t q v : Nat → Int32) : Prop := R 38 m = nI N ∧ ∀ i, i < N → R 39 (m * 20 + i) = t i ∧ R 40 (m * 20 + i) = q i ∧ R 41 (m * 20 + i) = v i
def plc (q v : Nat → Int32) : Nat → Int32
  | 0 => 0
  | i + 1 => if q i = 3 then v i else plc q v i
section SEALS
variable {C R : xM} {m N : Nat} {t q v : Nat → Int32}
theorem cnt20a (a b : Nat) : nI a * 20 + nI b = nI (a * 20 + b) := by rw [show (20 : Int32) = nI 20 from rfl, pk_mul, nI_add]
theorem cnt20b (a b : Nat) : 20 * nI a + nI b = nI (a * 20 + b) := by rw [show (20 : Int32) = nI 20 from rfl, pk_mul, nI_add, Nat.mul_comm]
abbrev bit' (i : Nat) : Int32 := (1 : Int32) <<< (nI i &&& 31)
theorem fo_step (hm : m < 6) (hN : N ≤ 20) (h : EVC C m N t q v) {sh sl : Int32} (hsh : sh = 0 ∨ sh = 1) {i : Nat} (hi : i < N) (fu n : Nat) :
    ∃ C' sh' sl', F_X7_follow_b20 fu (nI m) (n + 1) sh sl (nI i) C = F_X7_follow_b20 fu (nI m) n sh' sl' (nI (i + 1)) C' ∧ EVC C' m N t q v ∧
      sh' = (if q i = 0 then 1 else if q i = 1 ∧ (sh = 0 ∨ ¬ v i = sl) then 0 else if q i = 2 then 0 else sh) ∧
      sl' = (if q i = 0 then v i else sl) ∧
      C' 10 4 = C 10 4 ||| (if (q i = 0 ∧ sh = 1) ∨ (q i = 1 ∧ (sh = 0 ∨ ¬ v i = sl)) then bit' i else 0) ∧
      C' 10 5 = (C 10 5 ||| (if q i = 1 ∧ (sh = 0 ∨ ¬ v i = sl) then bit' i else 0)) ||| (if sh' = 0 then bit' (i + 1) else 0) := by
  obtain ⟨h1, h2⟩ := h
  obtain ⟨h3, h4, h5⟩ := h2 i hi
  have hk : m * 20 + i < 120 := by omega
  have d10 : ¬ ((1 : Int32) = 0) := by decide
  have d01 : ¬ ((0 : Int32) = 1) := by decide
  have d20 : ¬ ((2 : Int32) = 0) := by decide
  have d21 : ¬ ((2 : Int32) = 1) := by decide
  have d02 : ¬ ((0 : Int32) = 2) := by decide
  have d12 : ¬ ((1 : Int32) = 2) := by decide
  rw [F_X7_follow_b20, at_ok hm (by decide), h1, if_neg (nI_ge hi (by omega)), cnt20a, at_ok hk (by decide), at_ok hk (by decide), h4, h5]
  simp only [F_X7_follow_b88, F_X7_follow_b116, F_X7_follow_b149, F_X7_follow_b157, F_X7_follow_b177, bit_eq (show i ≤ 30 by omega), add1, bit_eq (show i + 1 ≤ 30 by omega)]
  by_cases k0 : q i = 0
  · rcases hsh with rfl | rfl
    · rw [if_pos k0, if_pos rfl, if_neg d10]
      refine ⟨_, 1, v i, rfl, ?_, ?_, ?_, ?_, ?_⟩
      · exact ⟨h1, h2⟩
      · rw [if_pos k0]
      · rw [if_pos k0]
      · simp [xset, k0]
      · simp [xset, k0]
    · rw [if_pos k0, if_neg d10, if_neg d10]
      refine ⟨_, 1, v i, rfl, ?_, ?_, ?_, ?_, ?_⟩
      · exact ⟨h1, h2⟩
      · rw [if_pos k0]
      · rw [if_pos k0]
      · simp [xset, k0]
      · simp [xset, k0]
  · rw [if_neg k0]
    by_cases k1 : q i = 1
    · by_cases hb : sh = 0 ∨ ¬ v i = sl
      · rcases hsh with rfl | rfl
        · rw [if_pos k1, if_pos rfl, if_pos trivial]
          refine ⟨_, 0, sl, rfl, ?_, ?_, ?_, ?_, ?_⟩
          · exact ⟨h1, h2⟩
          · rw [if_neg k0, if_pos ⟨k1, hb⟩]
          · rw [if_neg k0]
          · simp only [k1, hb, and_self, or_true, if_true]
            simp [xset]
          · simp only [k1, hb, and_self, if_true]
            simp [xset]
        · have hv : ¬ v i = sl := by
            rcases hb with z | z
            · exact absurd z d10
            · exact z
          rw [if_pos k1, if_neg d10, if_neg hv, if_pos trivial]
          refine ⟨_, 0, sl, rfl, ?_, ?_, ?_, ?_, ?_⟩
          · exact ⟨h1, h2⟩
          · rw [if_neg k0, if_pos ⟨k1, hb⟩]
          · rw [if_neg k0]
          · simp only [k1, hb, and_self, or_true, if_true]
            simp [xset]
          · simp only [k1, hb, and_self, if_true]
            simp [xset]
      · have hs1 : sh = 1 := by
          rcases hsh with z | z
          · exact absurd (Or.inl z) hb
          · exact z
        have hv : v i = sl := Classical.not_not.mp fun z => hb (Or.inr z)
        subst hs1
        rw [if_pos k1, if_neg d10, if_pos hv, if_neg (show ¬ q i = 2 by rw [k1]; exact d12), if_neg d10]
        refine ⟨_, 1, sl, rfl, ?_, ?_, ?_, ?_, ?_⟩
        · exact ⟨h1, h2⟩
        · rw [if_neg k0, if_neg (fun z => hb z.2), if_neg (by rw [k1]; decide)]
        · rw [if_neg k0]
        · simp [xset, k1, hv]
        · simp [xset, k1, hv]
    · rw [if_neg k1]
      by_cases k2 : q i = 2
      · rw [if_pos k2, if_pos trivial]
        refine ⟨_, 0, sl, rfl, ?_, ?_, ?_, ?_, ?_⟩
        · exact ⟨h1, h2⟩
        · rw [if_neg k0, if_neg (fun z => k1 z.1), if_pos k2]
        · rw [if_neg k0]
        · simp [xset, k2]
        · simp [xset, k2]
      · rw [if_neg k2]
        rcases hsh with rfl | rfl
        · rw [if_pos rfl]
          refine ⟨_, 0, sl, rfl, ?_, ?_, ?_, ?_, ?_⟩
          · exact ⟨h1, h2⟩
          · rw [if_neg k0, if_neg (fun z => k1 z.1), if_neg k2]
          · rw [if_neg k0]
          · simp [xset, k0, k1]
          · simp [xset, k0, k1]
        · rw [if_neg d10]
          refine ⟨_, 1, sl, rfl, ?_, ?_, ?_, ?_, ?_⟩
          · exact ⟨h1, h2⟩
          · rw [if_neg k0, if_neg (fun z => k1 z.1), if_neg k2]
          · rw [if_neg k0]
          · simp [xset, k0, k1]
          · simp [xset, k0, k1]
theorem xset_ne {M : xM} {k j k' j' : Nat} {x : Int32} (h : ¬ k' = k) : xset M k j x k' j' = M k' j' := by
  unfold xset
  rw [if_neg (fun z => h z.1)]
theorem gs_step (hm : m < 6) (hN : N ≤ 20) (h : EVR R m N t q v) {o nu pl : Int32} (ho : o = 0 ∨ o = 1) {i : Nat} (hi : i < N) (fu n : Nat) :
    ∃ R' o' nu' pl', F_X12_goSeals_b15 fu (nI m) (n + 1) o nu pl (nI i) R = F_X12_goSeals_b15 fu (nI m) n o' nu' pl' (nI (i + 1)) R' ∧ EVR R' m N t q v ∧
      o' = (if q i = 0 then 0 else if (q i = 1 ∧ o = 0 ∧ ¬ v i = nu) ∨ q i = 2 then 1 else o) ∧
      nu' = (if q i = 0 then v i else nu) ∧ pl' = (if q i = 3 then v i else pl) ∧
      R' 0 69 = R 0 69 ||| (if (q i = 1 ∧ (o = 1 ∨ ¬ v i = nu)) ∨ (q i = 0 ∧ o = 0) then bit' i else 0) ∧
      (∀ j, R' 42 j = if j = i then (if o = 1 ∨ (q i = 1 ∧ ¬ v i = nu) then 1 else 0) else R 42 j) ∧ ∀ j, R' 43 j = if j = i then pl else R 43 j := by
  obtain ⟨h1, h2⟩ := h
  obtain ⟨h3, h4, h5⟩ := h2 i hi
  have hk : m * 20 + i < 120 := by omega
  have d10 : ¬ ((1 : Int32) = 0) := by decide
  have d01 : ¬ ((0 : Int32) = 1) := by decide
  have i6 : ¬ (nI m < 0 ∨ 6 ≤ m) := idx_no2 hm (by decide)
  have i21 : ¬ (nI i < 0 ∨ 21 ≤ i) := idx_no2 (show i < 21 by omega) (by decide)
  have i120 : ¬ (nI (m * 20 + i) < 0 ∨ 120 ≤ m * 20 + i) := idx_no2 hk (by decide)
  have cm : (nI m).toNatClampNeg = m := nI_clamp (by omega)
  have ci : (nI i).toNatClampNeg = i := nI_clamp (by omega)
  have ck : (nI (m * 20 + i)).toNatClampNeg = m * 20 + i := nI_clamp (by omega)
  rw [F_X12_goSeals_b15, cm, if_neg i6, h1, if_neg (nI_ge hi (by omega)), cnt20b]
  simp (decide := true) only [F_X12_goSeals_b65, F_X12_goSeals_b66, F_X12_goSeals_b88, F_X12_goSeals_b102, F_X12_goSeals_b106, F_X12_goSeals_b107, F_X12_goSeals_b124, F_X12_goSeals_b129, F_X12_goSeals_b157, F_X12_goSeals_b181, F_X12_goSeals_b197, F_X12_goSeals_b199, F_X12_goSeals_b219, ck, ci, i120, i21, if_false, if_true, xset_ne, h4, h5, add1, nb0, nb1]
  rcases ho with rfl | rfl
  · by_cases k0 : q i = 0
    · simp (decide := true) only [k0, if_true, if_false]
      refine ⟨_, _, _, _, rfl, ⟨h1, h2⟩, ?_, ?_, ?_, ?_, fun j => ?_, fun j => ?_⟩ <;> simp [xset]
    · by_cases k1 : q i = 1
      · by_cases hv : v i = nu
        · simp (decide := true) only [k1, hv, if_true, if_false]
          refine ⟨_, _, _, _, rfl, ⟨h1, h2⟩, ?_, ?_, ?_, ?_, fun j => ?_, fun j => ?_⟩ <;> simp [xset, hv]
        · simp (decide := true) only [k1, hv, if_true, if_false]
          refine ⟨_, _, _, _, rfl, ⟨h1, h2⟩, ?_, ?_, ?_, ?_, fun j => ?_, fun j => ?_⟩ <;> simp [xset, hv]
      · by_cases k2 : q i = 2
        · simp (decide := true) only [k2, if_true, if_false]
          refine ⟨_, _, _, _, rfl, ⟨h1, h2⟩, ?_, ?_, ?_, ?_, fun j => ?_, fun j => ?_⟩ <;> simp [xset]
        · by_cases k3 : q i = 3
          · simp (decide := true) only [k3, if_true, if_false]
            refine ⟨_, _, _, _, rfl, ⟨h1, h2⟩, ?_, ?_, ?_, ?_, fun j => ?_, fun j => ?_⟩ <;> simp [xset]
          · simp (decide := true) only [k0, k1, k2, k3, if_true, if_false]
            refine ⟨_, _, _, _, rfl, ⟨h1, h2⟩, ?_, ?_, ?_, ?_, fun j => ?_, fun j => ?_⟩ <;> simp [xset, k0, k1, k2, k3]
  · by_cases k0 : q i = 0
    · simp (decide := true) only [k0, if_true, if_false]
      refine ⟨_, _, _, _, rfl, ⟨h1, h2⟩, ?_, ?_, ?_, ?_, fun j => ?_, fun j => ?_⟩ <;> simp [xset]
    · by_cases k1 : q i = 1
      · simp (decide := true) only [k1, if_true, if_false]
        refine ⟨_, _, _, _, rfl, ⟨h1, h2⟩, ?_, ?_, ?_, ?_, fun j => ?_, fun j => ?_⟩ <;> simp [xset]
      · by_cases k2 : q i = 2
        · simp (decide := true) only [k2, if_true, if_false]
          refine ⟨_, _, _, _, rfl, ⟨h1, h2⟩, ?_, ?_, ?_, ?_, fun j => ?_, fun j => ?_⟩ <;> simp [xset]
        · by_cases k3 : q i = 3
          · simp (decide := true) only [k3, if_true, if_false]
            refine ⟨_, _, _, _, rfl, ⟨h1, h2⟩, ?_, ?_, ?_, ?_, fun j => ?_, fun j => ?_⟩ <;> simp [xset]
          · simp (decide := true) only [k0, k1, k2, k3, if_true, if_false]
            refine ⟨_, _, _, _, rfl, ⟨h1, h2⟩, ?_, ?_, ?_, ?_, fun j => ?_, fun j => ?_⟩ <;> simp [xset, k0, k1, k2, k3]
end SEALS
