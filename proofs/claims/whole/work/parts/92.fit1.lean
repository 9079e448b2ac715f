/-! SETS of FAULTS, told once: how a MACHINE stands by a set -/
abbrev aS : Type := (Nat → Nat) × (Nat → Nat) × (Nat → Nat) × (Nat → Bool) × (Nat → Bool)
def fn (f : Nat → Nat) (k v : Nat) : Nat → Nat := fun j => if j = k then v else f j
def fnb (f : Nat → Bool) (k : Nat) : Nat → Bool := fun j => if j = k then true else f j
def stA (k : Int32) (a : Nat) (b : Int32) (p : aS) : aS :=
  if k = 0 then (p.1, p.2.1, fn p.2.2.1 a (if b = 0 then min (p.2.2.1 a) 10 else min (p.2.2.1 a) 100), p.2.2.2.1, p.2.2.2.2)
  else if k = 1 then (fn (fn p.1 a (p.1 b.toNatClampNeg)) b.toNatClampNeg (p.1 a), p.2.1, p.2.2.1, p.2.2.2.1, p.2.2.2.2)
  else if k = 2 then (p.1, p.2.1, p.2.2.1, fnb p.2.2.2.1 a, p.2.2.2.2)
  else if k = 3 then (p.1, fn p.2.1 a b.toNatClampNeg, p.2.2.1, p.2.2.2.1, p.2.2.2.2)
  else (p.1, p.2.1, p.2.2.1, p.2.2.2.1, fnb p.2.2.2.2 a)
def arr (R : xM) (m s : Nat) : Nat → aS
  | 0 => (fun j => j, fun _ => 0, fun _ => 1000, fun _ => false, fun _ => false)
  | f + 1 => if s.testBit f = true then stA (R 16 (m * 8 + f)) (R 17 (m * 8 + f)).toNatClampNeg (R 18 (m * 8 + f)) (arr R m s f) else arr R m s f
def okA (p : aS) : Prop := (∀ l, l < 16 → p.1 l < 16) ∧ (∀ l, l < 16 → p.2.1 l ≤ 999) ∧ ∀ l, l < 16 → p.2.2.1 l = 10 ∨ p.2.2.1 l = 100 ∨ p.2.2.1 l = 1000
/-- the class's cells, the reference's cells, by one standing -/
def AC (C : xM) (p : aS) : Prop := (∀ l, l < 16 → C 33 l = nI (p.1 l) ∧ C 34 l = nI (p.2.1 l) ∧ C 35 l = nI (p.2.2.1 l)) ∧ (∀ l, l < 16 → tb (C 6 8) l = p.2.2.2.1 l) ∧ ∀ o, o < 6 → tb (C 6 9) o = p.2.2.2.2 o
def AR (R : xM) (p : aS) : Prop := (∀ l, l < 16 → R 19 l = nI (p.1 l) ∧ R 20 l = nI (p.2.1 l) ∧ R 21 l = nI (p.2.2.1 l)) ∧ (∀ l, l < 16 → R 23 l = if p.2.2.2.1 l = true then 1 else 0) ∧ ∀ o, o < 6 → tb (R 0 42) o = p.2.2.2.2 o
section FIT1
variable {C R : xM}
theorem fn_at (f : Nat → Nat) (k v j : Nat) : fn f k v j = if j = k then v else f j := rfl
theorem arr0_ok (R : xM) (m s : Nat) : okA (arr R m s 0) := ⟨fun _ h => h, fun _ _ => Nat.zero_le _, fun _ _ => Or.inr (Or.inr rfl)⟩
theorem stA_ok {lv : Nat} (hl : lv ≤ 16) {k a b : Int32} (h : okF lv k a b) {p : aS} (hp : okA p) : okA (stA k a.toNatClampNeg b p) := by
  obtain ⟨p1, p2, p3⟩ := hp
  unfold stA
  rcases h with ⟨rfl, ⟨j, hj, rfl⟩, hb⟩ | ⟨rfl, ⟨j, hj, rfl⟩, ⟨i, hi, rfl⟩, _⟩ | ⟨rfl, ⟨j, hj, rfl⟩⟩ | ⟨rfl, ⟨j, hj, rfl⟩, w, hw1, hw2, rfl⟩ | ⟨rfl, ⟨j, hj, rfl⟩⟩
  · rw [if_pos rfl, nI_clamp (by omega)]
    refine ⟨p1, p2, fun l hll => ?_⟩
    show fn p.2.2.1 j _ l = 10 ∨ fn p.2.2.1 j _ l = 100 ∨ fn p.2.2.1 j _ l = 1000
    rw [fn_at]
    by_cases e : l = j
    · rw [if_pos e]
      have := p3 j (by omega)
      split <;> omega
    · rw [if_neg e]
      exact p3 l hll
  · rw [if_neg (by decide), if_pos rfl, nI_clamp (by omega), nI_clamp (by omega)]
    refine ⟨fun l hll => ?_, p2, p3⟩
    show fn (fn p.1 j (p.1 i)) i (p.1 j) l < 16
    rw [fn_at, fn_at]
    have := p1 j (by omega)
    have := p1 i (by omega)
    have := p1 l hll
    split
    · omega
    · split <;> omega
  · rw [if_neg (by decide), if_neg (by decide), if_pos rfl]
    exact ⟨p1, p2, p3⟩
  · rw [if_neg (by decide), if_neg (by decide), if_neg (by decide), if_pos rfl, nI_clamp (by omega), nI_clamp (by omega)]
    refine ⟨p1, fun l hll => ?_, p3⟩
    show fn p.2.1 j w l ≤ 999
    rw [fn_at]
    have := p2 l hll
    split <;> omega
  · rw [if_neg (by decide), if_neg (by decide), if_neg (by decide), if_neg (by decide)]
    exact ⟨p1, p2, p3⟩
theorem arr_ok (hQ : RQ C R) {m n : Nat} (hm : m < 6) (hn : n ≤ 8) (e : R 15 m = nI n) (s : Nat) : ∀ f, f ≤ n → okA (arr R m s f) := by
  obtain ⟨_, _, lv, hl, _, hk⟩ := hQ
  intro f
  induction f with
  | zero => exact fun _ => arr0_ok R m s
  | succ f ih =>
    intro hf
    rw [arr]
    by_cases hs : s.testBit f = true
    · rw [if_pos hs]
      exact stA_ok hl (hk m n f hm e hn (by omega)) (ih (by omega))
    · rw [if_neg hs]
      exact ih (by omega)
theorem jminN {a b : Nat} (ha : a < 2 ^ 31) (hb : b < 2 ^ 31) : jmin (nI a) (nI b) = nI (min a b) := by
  unfold jmin
  by_cases h : b < a
  · rw [if_pos (nI_lt h ha)]
    congr 1
    omega
  · rw [if_neg (nI_nlt (by omega) hb)]
    congr 1
    omega
theorem wh_min {p : aS} (hp : okA p) {j : Nat} (hj : j < 16) (b : Int32) : (if b = 0 then min (p.2.2.1 j) 10 else min (p.2.2.1 j) 100) ≤ 1000 ∧ (if b = 0 then min (p.2.2.1 j) 10 else min (p.2.2.1 j) 100) = min (p.2.2.1 j) (if b = 0 then 10 else 100) := by
  have := hp.2.2 j hj
  split <;> omega
theorem tb_or1 (x : Int32) {j l : Nat} (hj : j < 32) (hl : l < 32) : tb (x ||| ((1 : Int32) <<< (nI j &&& 31))) l = (tb x l || decide (l = j)) := by
  rw [tb_or, tb_bit hj hl]
/-- the class lays one FAULT -/
theorem afC {lv : Nat} (hl : lv ≤ 16) {k a b : Int32} (h : okF lv k a b) {p : aS} (hp : okA p) (hA : AC C p) : ∃ C', F_X2_arrangeFault k a b C = some C' ∧ AC C' (stA k a.toNatClampNeg b p) := by
  obtain ⟨a1, a2, a3⟩ := hA
  unfold F_X2_arrangeFault stA
  rcases h with ⟨rfl, ⟨j, hj, rfl⟩, hb⟩ | ⟨rfl, ⟨j, hj, rfl⟩, ⟨i, hi, rfl⟩, _⟩ | ⟨rfl, ⟨j, hj, rfl⟩⟩ | ⟨rfl, ⟨j, hj, rfl⟩, w, hw1, hw2, rfl⟩ | ⟨rfl, ⟨j, hj, rfl⟩⟩
  · rw [if_pos rfl, if_pos rfl, nI_clamp (by omega), at_ok (show j < 16 by omega) (by decide), put_ok (show j < 16 by omega) (by decide), (a1 j (by omega)).2.2]
    have hw := hp.2.2 j (by omega)
    have e : jmin (nI (p.2.2.1 j)) (P_X5_wheel b C) = nI (if b = 0 then min (p.2.2.1 j) 10 else min (p.2.2.1 j) 100) := by
      unfold P_X5_wheel
      by_cases z : b = 0
      · rw [if_pos z, if_pos z]
        exact jminN (b := 10) (by omega) (by decide)
      · rw [if_neg z, if_neg z]
        exact jminN (b := 100) (by omega) (by decide)
    rw [e]
    refine ⟨_, rfl, fun l hll => ?_, a2, a3⟩
    obtain ⟨q1, q2, q3⟩ := a1 l hll
    refine ⟨q1, q2, ?_⟩
    show xset C 35 j _ 35 l = nI (fn p.2.2.1 j _ l)
    rw [fn_at]
    by_cases z : l = j
    · subst z
      simp [xset]
    · simp [xset, z, q3]
  · rw [if_neg (by decide), if_pos rfl, if_neg (show ¬ ((1 : Int32) = 0) by decide), if_pos rfl, nI_clamp (by omega), nI_clamp (by omega), swap_ok (show j < 16 by omega) (show i < 16 by omega) (by decide)]
    refine ⟨_, rfl, fun l hll => ?_, a2, a3⟩
    obtain ⟨q1, q2, q3⟩ := a1 l hll
    refine ⟨?_, q2, q3⟩
    show xset (xset C 33 j (C 33 i)) 33 i (C 33 j) 33 l = nI (fn (fn p.1 j (p.1 i)) i (p.1 j) l)
    rw [fn_at, fn_at, (a1 i (by omega)).1, (a1 j (by omega)).1]
    by_cases z : l = i
    · subst z
      simp [xset]
    · by_cases z2 : l = j
      · subst z2
        simp [xset, z]
      · simp [xset, z, z2, q1]
  · rw [if_neg (by decide), if_neg (by decide), if_pos rfl, if_neg (show ¬ ((2 : Int32) = 0) by decide), if_neg (show ¬ ((2 : Int32) = 1) by decide), if_pos rfl, nI_clamp (by omega), bit_eq (by omega)]
    refine ⟨_, rfl, a1, fun l hll => ?_, a3⟩
    show tb ((C 6 8) ||| ((1 : Int32) <<< (nI j &&& 31))) l = fnb p.2.2.2.1 j l
    rw [tb_or1 _ (by omega) (by omega), a2 l hll]
    unfold fnb
    by_cases z : l = j
    · rw [if_pos z, decide_eq_true z, Bool.or_true]
    · rw [if_neg z, decide_eq_false z, Bool.or_false]
  · rw [if_neg (by decide), if_neg (by decide), if_neg (by decide), if_pos rfl, if_neg (show ¬ ((3 : Int32) = 0) by decide), if_neg (show ¬ ((3 : Int32) = 1) by decide), if_neg (show ¬ ((3 : Int32) = 2) by decide), if_pos rfl, nI_clamp (by omega), nI_clamp (by omega), put_ok (show j < 16 by omega) (by decide)]
    refine ⟨_, rfl, fun l hll => ?_, a2, a3⟩
    obtain ⟨q1, q2, q3⟩ := a1 l hll
    refine ⟨q1, ?_, q3⟩
    show xset C 34 j _ 34 l = nI (fn p.2.1 j _ l)
    rw [fn_at]
    by_cases z : l = j
    · subst z
      simp [xset]
    · simp [xset, z, q2]
  · rw [if_neg (by decide), if_neg (by decide), if_neg (by decide), if_neg (by decide), if_neg (show ¬ ((4 : Int32) = 0) by decide), if_neg (show ¬ ((4 : Int32) = 1) by decide), if_neg (show ¬ ((4 : Int32) = 2) by decide), if_neg (show ¬ ((4 : Int32) = 3) by decide), nI_clamp (by omega), bit_eq (by omega)]
    refine ⟨_, rfl, a1, a2, fun l hll => ?_⟩
    show tb ((C 6 9) ||| ((1 : Int32) <<< (nI j &&& 31))) l = fnb p.2.2.2.2 j l
    rw [tb_or1 _ (by omega) (by omega), a3 l hll]
    unfold fnb
    by_cases z : l = j
    · rw [if_pos z, decide_eq_true z, Bool.or_true]
    · rw [if_neg z, decide_eq_false z, Bool.or_false]
end FIT1
