section BITS
/-- bit p of a number -/
def tb (x : Int32) (p : Nat) : Bool := x.toBitVec.getLsbD p
theorem tb_or (x y : Int32) (p : Nat) : tb (x ||| y) p = (tb x p || tb y p) := by simp [tb]
theorem tb_and (x y : Int32) (p : Nat) : tb (x &&& y) p = (tb x p && tb y p) := by simp [tb]
theorem tb_xor (x y : Int32) (p : Nat) : tb (x ^^^ y) p = (tb x p ^^ tb y p) := by simp [tb]
theorem tb_0 (p : Nat) : tb 0 p = false := by simp [tb]
theorem tb_ext {x y : Int32} (h : ∀ p, p < 32 → tb x p = tb y p) : x = y := by
  apply Int32.toBitVec_inj.mp
  apply BitVec.eq_of_getLsbD_eq
  intro i hi
  exact h i hi
theorem sm31 : ∀ p, p < 32 → ((nI p).toBitVec.smod 32).toNat = p ∧ (nI p &&& 31) = nI p := by decide +kernel
theorem tb_bit {i p : Nat} (hi : i < 32) (hp : p < 32) : tb ((1 : Int32) <<< (nI i &&& 31)) p = decide (p = i) := by
  have h : ∀ i, i < 32 → ∀ p, p < 32 → tb ((1 : Int32) <<< (nI i &&& 31)) p = decide (p = i) := by decide +kernel
  exact h i hi p hp
theorem tb_shr {x : Int32} {p : Nat} (hp : p < 32) : ((x >>> (nI p &&& 31)) &&& 1) = if tb x p = true then 1 else 0 := by
  obtain ⟨e1, e2⟩ := sm31 p hp
  apply tb_ext
  intro i hi
  rw [e2, tb_and]
  have e3 : tb (x >>> nI p) i = (x.toBitVec.sshiftRight p).getLsbD i := by
    unfold tb
    rw [Int32.toBitVec_shiftRight]
    show (x.toBitVec.sshiftRight (((nI p).toBitVec.smod 32).toNat)).getLsbD i = _
    rw [e1]
  rw [e3]
  by_cases h0 : i = 0
  · subst h0
    rw [BitVec.getLsbD_sshiftRight, if_pos (show p + 0 < 32 by omega), Nat.add_zero]
    unfold tb
    generalize x.toBitVec.getLsbD p = bb
    cases bb <;> decide
  · have h1 : tb 1 i = false := by
      have h : ∀ i, i < 32 → i ≠ 0 → tb 1 i = false := by decide +kernel
      exact h i hi h0
    rw [h1, Bool.and_false]
    split
    · exact h1.symm
    · exact (tb_0 i).symm
theorem has_tb {x : Int32} {p : Nat} (hp : p ≤ 30) {M : xM} : P_X1_has x (nI p) M = if tb x p = true then 1 else 0 := by
  unfold P_X1_has
  rw [if_neg (nI_pos (by omega)), if_neg (show ¬ (30 : Int32) < nI p from nI_nlt hp (by decide)), tb_shr (by omega)]
  cases tb x p <;> decide
theorem has12_tb {x : Int32} {p : Nat} (hp : p < 32) {M : xM} : P_X12_has x (nI p) M = if tb x p = true then 1 else 0 := by
  unfold P_X12_has
  rw [tb_shr hp]
  cases tb x p <;> decide
end BITS
