/-! Bytes: the class keeps them as 0 .. 255, the reference with a sign -/
def sb (b : Nat) : Int32 := if b < 128 then nI b else nI b - nI 256
def byt (x : Int32) (s : Nat) : Nat := x.toBitVec.toNat / 2 ^ s % 256
def RT (C R : xM) : Prop := ∀ k, k < 120 → ∃ b : Nat, b < 256 ∧ C 17 k = nI b ∧ R 7 k = sb b
abbrev RTc : List (Nat × Option Nat) := [(17, none)]
abbrev RTr : List (Nat × Option Nat) := [(7, none)]
theorem RT_m (C R : xM) : RT (msk RTc C) (msk RTr R) ↔ RT C R := Iff.rfl
def RLw (C R : xM) : Prop := (∀ k, k < 480 → ∃ b : Nat, b < 256 ∧ C 18 k = nI b ∧ R 8 k = sb b) ∧ ∀ l, l < 4 → ∃ n : Nat, n ≤ 120 ∧ C 19 l = nI n ∧ R 9 l = nI n
abbrev RLwc : List (Nat × Option Nat) := [(18, none), (19, none)]
abbrev RLwr : List (Nat × Option Nat) := [(8, none), (9, none)]
theorem RLw_m (C R : xM) : RLw (msk RLwc C) (msk RLwr R) ↔ RLw C R := Iff.rfl
def cb (x : Int32) : Nat → Nat
  | 0 => 0
  | j + 1 => (if byt x (8 * j) = 0 then 0 else 1) + cb x j
def shj (j : Nat) : Int32 := nI (8 * j) + (-8)
section TAPE
variable {C R : xM}
theorem sb_toInt {b : Nat} (h : b < 256) : (sb b).toInt = if b < 128 then (b : Int) else (b : Int) - 256 := by
  unfold sb
  by_cases z : b < 128
  · rw [if_pos z, if_pos z, nI_toInt (by omega)]
  · rw [if_neg z, if_neg z, pk_sub_toInt (by omega) (by omega)]
    rfl
theorem i32_cond (x : Int32) : x.toInt = if 2 * x.toBitVec.toNat < 2 ^ 32 then (x.toBitVec.toNat : Int) else (x.toBitVec.toNat : Int) - 2 ^ 32 := by
  rw [← Int32.toInt_toBitVec, BitVec.toInt_eq_toNat_cond]
  rfl
theorem by_lt (x : Int32) (s : Nat) : byt x s < 256 := Nat.mod_lt _ (by decide)
theorem by_c (x : Int32) : ∀ j, j < 4 → ((x.toUInt32 >>> ((nI (8 * j)).toUInt32 &&& Int32.toUInt32 31)).toInt32) &&& 255 = nI (byt x (8 * j)) := by
  intro j hj
  rw [pk_and _ 8 (by decide), pk_ushr x (nI (8 * j)) (8 * j) (by
    have : ∀ j, j < 4 → (((nI (8 * j)).toUInt32 &&& Int32.toUInt32 31).toBitVec % 32).toNat = 8 * j := by decide
    exact this j hj)]
  rfl
theorem shr_nat (x : Int32) : ∀ j, j < 4 → (x >>> (nI (8 * j) &&& 31)).toBitVec.toNat % 256 = byt x (8 * j) ∧ (x >>> (nI (8 * j) &&& 31)).toInt.bmod 256 = (sb (byt x (8 * j))).toInt := by
  intro j hj
  have e := pk_shr x (nI (8 * j) &&& 31) (8 * j) (by
    have : ∀ j, j < 4 → ((nI (8 * j) &&& 31).toBitVec.smod 32).toNat = 8 * j := by decide
    exact this j hj)
  generalize x >>> (nI (8 * j) &&& 31) = y at e ⊢
  rw [sb_toInt (by_lt x _)]
  have hy := i32_cond y
  have hx := i32_cond x
  have b1 := y.toBitVec.isLt
  have b2 := x.toBitVec.isLt
  unfold byt
  rw [Int.shiftRight_eq_div_pow] at e
  generalize y.toBitVec.toNat = a at *
  generalize x.toBitVec.toNat = b at *
  generalize y.toInt = c at *
  generalize x.toInt = d at *
  simp only [Int.bmod]
  rcases (show j = 0 ∨ j = 1 ∨ j = 2 ∨ j = 3 by omega) with rfl | rfl | rfl | rfl
  · simp at e ⊢
    omega
  · simp at e ⊢
    omega
  · simp at e ⊢
    omega
  · simp at e ⊢
    omega
theorem by_r (x : Int32) (j : Nat) (hj : j < 4) : (x >>> (nI (8 * j) &&& 31)) &&& 255 = nI (byt x (8 * j)) := by
  rw [pk_and _ 8 (by decide), (shr_nat x j hj).1]
theorem by_n (x : Int32) (j : Nat) (hj : j < 4) : vp_nar .byte ((x >>> (nI (8 * j) &&& 31)).toInt8.toInt32) = sb (byt x (8 * j)) := by
  rw [vp_nar_byte, Int8.toInt8_toInt32, ← Int32.toInt_inj, Int8.toInt_toInt32, Int32.toInt_toInt8, ← (shr_nat x j hj).2]
theorem sj_pos : ∀ j, j < 4 → ¬ shj (j + 1) < 0 ∧ shj (j + 1) = nI (8 * j) ∧ nI (8 * j) + (-8) = shj j := by decide
theorem nbyt {x : Int32} {s : Nat} : nI (byt x s) = 0 ↔ byt x s = 0 := nI_eq (by have := by_lt x s; omega) (by decide)
theorem byC (x : Int32) (fu : Nat) : ∀ (j n a : Nat), j ≤ 4 → j < n → F_X9_bytesIn_b5 fu x n (nI a) (shj j) C = some (nI (a + cb x j), C) := by
  intro j
  induction j with
  | zero =>
    intro n a hj hn
    obtain ⟨n, rfl⟩ : ∃ z, n = z + 1 := ⟨n - 1, by omega⟩
    rw [F_X9_bytesIn_b5, if_pos (show shj 0 < 0 by decide)]
    rfl
  | succ j ih =>
    intro n a hj hn
    obtain ⟨n, rfl⟩ : ∃ z, n = z + 1 := ⟨n - 1, by omega⟩
    obtain ⟨s1, s2, s3⟩ := sj_pos j (by omega)
    rw [F_X9_bytesIn_b5, if_neg s1, s2, by_c x j (by omega), F_X9_bytesIn_b22, F_X9_bytesIn_b22, s3, cb, add1]
    by_cases z : byt x (8 * j) = 0
    · rw [if_pos (nbyt.mpr z), if_pos z, ih n a (by omega) (by omega), Nat.zero_add]
    · rw [if_neg (fun w => z (nbyt.mp w)), if_neg z, ih n (a + 1) (by omega) (by omega), Nat.add_assoc]
theorem byR (x : Int32) (fu : Nat) : ∀ (j n a : Nat), j ≤ 4 → j < n → F_X12_bytesIn_b5 fu x n (nI a) (shj j) R = some (nI (a + cb x j), R) := by
  intro j
  induction j with
  | zero =>
    intro n a hj hn
    obtain ⟨n, rfl⟩ : ∃ z, n = z + 1 := ⟨n - 1, by omega⟩
    rw [F_X12_bytesIn_b5, if_pos (show shj 0 < 0 by decide)]
    rfl
  | succ j ih =>
    intro n a hj hn
    obtain ⟨n, rfl⟩ : ∃ z, n = z + 1 := ⟨n - 1, by omega⟩
    obtain ⟨s1, s2, s3⟩ := sj_pos j (by omega)
    rw [F_X12_bytesIn_b5, if_neg s1, s2, by_r x j (by omega), F_X12_bytesIn_b25, F_X12_bytesIn_b25, s3, cb, add1, Int32.add_zero]
    by_cases z : byt x (8 * j) = 0
    · rw [if_pos (nbyt.mpr z), if_pos z, ih n a (by omega) (by omega), Nat.zero_add]
    · rw [if_neg (fun w => z (nbyt.mp w)), if_neg z, ih n (a + 1) (by omega) (by omega), Nat.add_assoc]
theorem by24C (x : Int32) {fu : Nat} (hfu : 70000 ≤ fu) : F_X9_bytesIn fu x C = some (nI (cb x 4), C) := by
  have := byC (C := C) x fu 4 fu 0 (by omega) (by omega)
  rw [Nat.zero_add] at this
  exact this
theorem by24R (x : Int32) {fu : Nat} (hfu : 70000 ≤ fu) : F_X12_bytesIn fu x R = some (nI (cb x 4), R) := by
  have := byR (R := R) x fu 4 fu 0 (by omega) (by omega)
  rw [Nat.zero_add] at this
  exact this
theorem cb_le (x : Int32) : ∀ j, cb x j ≤ j := by
  intro j
  induction j with
  | zero => exact Nat.le_refl 0
  | succ j ih =>
    rw [cb]
    split <;> omega
def TP (C R : xM) (L : Nat) : Prop := C 2 1 = nI L ∧ R 0 15 = nI L ∧ RT C R
theorem ap_loop (x : Int32) (fu : Nat) : ∀ (j n1 n2 L : Nat) (C R : xM), j ≤ 4 → j < n1 → j < n2 → TP C R L → L + cb x j ≤ 120 → ∃ C' R', F_X9_append_b3 fu x n1 (shj j) C = some C' ∧ F_X12_put_b3 fu x n2 (shj j) R = some R' ∧ TP C' R' (L + cb x j) := by
  intro j
  induction j with
  | zero =>
    intro n1 n2 L C R hj h1 h2 hT hL
    obtain ⟨n1, rfl⟩ : ∃ z, n1 = z + 1 := ⟨n1 - 1, by omega⟩
    obtain ⟨n2, rfl⟩ : ∃ z, n2 = z + 1 := ⟨n2 - 1, by omega⟩
    rw [F_X9_append_b3, F_X12_put_b3, if_pos (show shj 0 < 0 by decide), if_pos (show shj 0 < 0 by decide)]
    exact ⟨C, R, rfl, rfl, hT⟩
  | succ j ih =>
    intro n1 n2 L C R hj h1 h2 hT hL
    obtain ⟨n1, rfl⟩ : ∃ z, n1 = z + 1 := ⟨n1 - 1, by omega⟩
    obtain ⟨n2, rfl⟩ : ∃ z, n2 = z + 1 := ⟨n2 - 1, by omega⟩
    obtain ⟨s1, s2, s3⟩ := sj_pos j (by omega)
    rw [cb] at hL ⊢
    rw [F_X9_append_b3, F_X12_put_b3, if_neg s1, if_neg s1, s2, by_c x j (by omega), by_r x j (by omega), by_n x j (by omega), F_X9_append_b50, F_X12_put_b43, F_X12_put_b43, s3]
    by_cases z : byt x (8 * j) = 0
    · rw [if_pos z] at hL ⊢
      rw [if_pos (nbyt.mpr z), if_pos (nbyt.mpr z), Nat.zero_add]
      exact ih n1 n2 L C R (by omega) (by omega) (by omega) hT (by omega)
    · rw [if_neg z] at hL ⊢
      obtain ⟨t1, t2, t3⟩ := hT
      have hL1 : L < 120 := by omega
      rw [if_neg (fun w => z (nbyt.mp w)), if_neg (fun w => z (nbyt.mp w)), t1, t2, if_neg (show ¬ (120 : Int32) ≤ nI L from nI_ge hL1 (by decide)), if_neg (idx_no hL1 (by decide)), nI_clamp (by omega), put_ok hL1 (by decide)]
      simp only [Option.bind_some, F_X9_append_b50, F_X12_put_b43, s3]
      rw [show (xset C 17 L (nI (byt x (8 * j)))) 2 1 = nI L from t1, show (xset R 7 L (sb (byt x (8 * j)))) 0 15 = nI L from t2, add1, ← Nat.add_assoc]
      refine ih n1 n2 (L + 1) _ _ (by omega) (by omega) (by omega) ⟨by simp [xset], by simp [xset], fun k hk => ?_⟩ (by omega)
      by_cases e : k = L
      · subst e
        exact ⟨byt x (8 * j), by_lt _ _, by simp [xset], by simp [xset]⟩
      · obtain ⟨b, hb, q1, q2⟩ := t3 k hk
        exact ⟨b, hb, by simp [xset, e, q1], by simp [xset, e, q2]⟩
theorem ap_ok (x : Int32) {fu L : Nat} (hfu : 70000 ≤ fu) (hT : TP C R L) (hL : L + cb x 4 ≤ 120) : ∃ C' R', F_X9_append fu x C = some C' ∧ F_X12_put fu x R = some R' ∧ TP C' R' (L + cb x 4) :=
  ap_loop x fu 4 fu fu L C R (by omega) (by omega) (by omega) hT hL
theorem le120 {n : Nat} (h : n < 2 ^ 31) : (nI n ≤ 120) ↔ n ≤ 120 := nI_leI (b := 120) h (by decide)
theorem feed_ok {fu : Nat} (hfu : 70000 ≤ fu) (x1 x2 x3 x4 x5 : Int32) {L : Nat} (hL : L ≤ 120) (hT : TP C R L) : ∃ v C' R' L', F_X11_feed fu x1 x2 x3 x4 x5 C = some (v, C') ∧ F_X12_feed fu x1 x2 x3 x4 x5 R = some (v, R') ∧ L' ≤ 120 ∧ TP C' R' L' := by
  have hT0 : TP C (xset R 0 0 0) L := hT
  unfold F_X11_feed F_X12_feed
  simp only [by24C _ hfu, by24R _ hfu, Option.bind_some]
  rw [hT0.1, hT0.2.1]
  simp only [nI_add]
  have q1 := cb_le x1 4
  have q2 := cb_le x2 4
  have q3 := cb_le x3 4
  have q4 := cb_le x4 4
  have q5 := cb_le x5 4
  by_cases h : L + cb x1 4 + cb x2 4 + cb x3 4 + cb x4 4 + cb x5 4 ≤ 120
  · rw [if_pos ((le120 (by omega)).mpr (by omega)), if_pos ((le120 (by omega)).mpr h)]
    obtain ⟨C1, R1, a1, b1, T1⟩ := ap_ok x1 hfu hT0 (by omega)
    obtain ⟨C2, R2, a2, b2, T2⟩ := ap_ok x2 hfu T1 (by omega)
    obtain ⟨C3, R3, a3, b3, T3⟩ := ap_ok x3 hfu T2 (by omega)
    obtain ⟨C4, R4, a4, b4, T4⟩ := ap_ok x4 hfu T3 (by omega)
    obtain ⟨C5, R5, a5, b5, T5⟩ := ap_ok x5 hfu T4 (by omega)
    rw [a1, b1]
    simp only [Option.bind_some]
    rw [a2, b2]
    simp only [Option.bind_some]
    rw [a3, b3]
    simp only [Option.bind_some]
    rw [a4, b4]
    simp only [Option.bind_some]
    rw [a5, b5]
    simp only [Option.bind_some]
    exact ⟨_, C5, R5, _, by rw [T5.1], by rw [T5.2.1], h, T5⟩
  · rw [if_neg (fun z => h (by have := (le120 (by omega)).mp z; omega)), if_neg (fun z => h ((le120 (by omega)).mp z))]
    exact ⟨-1, _, _, L, rfl, rfl, hL, hT0⟩
end TAPE
