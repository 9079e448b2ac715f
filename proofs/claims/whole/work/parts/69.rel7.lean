/-! All ROWS at once: rows, proof, need -/
def cntB (p : Nat → Bool) : Nat → Nat
  | 0 => 0
  | i + 1 => cntB p i + (if p i = true then 1 else 0)
def fstB (p : Nat → Bool) : Nat → Int32
  | 0 => -1
  | i + 1 => if fstB p i = -1 then (if p i = true then nI i else -1) else fstB p i
def hitB (R : xM) (sn : Nat) : Nat → Nat → Bool
  | 0, _ => false
  | i + 1, k => hitB R sn i k || decide (agF R (nI i) 0 sn = nI k)
abbrev enP (R : xM) (sn N : Nat) (s : Int32) : Prop := ∀ k, k < 2 ^ sn → 1 ≤ k → hitB R sn N k = true → ¬ (nI k &&& s = 0)
def bst (p : Nat → Bool) : Nat → Int32
  | 0 => -1
  | i + 1 => if (p i && (decide (bst p i = -1) || decide (¬ P_X12_isBefore (nI i) (bst p i) (fun _ _ => 0) = 0))) = true then nI i else bst p i
def letB (R : xM) (sn : Nat) (r : Nat) : Bool := decide (agF R (nI r) 0 sn = 0)
def beatB (R : xM) (sn on : Nat) (r : Nat) : Bool := decide (agF R (nI r) 0 sn = 0) && !decide (lawP R (nI r) on)
def barB (R : xM) (sn on : Nat) (r : Nat) : Bool := !decide (agF R (nI r) 0 sn = 0) && decide (lawP R (nI r) on)
def ndB (R : xM) (sn N : Nat) (s : Nat) : Bool := decide (enP R sn N (nI s))
def RB (C R : xM) : Prop := ∃ lv on sn : Nat, lv ≤ 16 ∧ on ≤ 6 ∧ sn ≤ 10 ∧ R 0 1 = nI lv ∧ R 0 7 = nI on ∧ R 0 8 = nI sn ∧ (C 1 8 = 1 ∨ C 1 8 = 0 ∧ C 1 9 = nI (cntB (letB R sn) (2 ^ lv)) ∧ C 1 10 = fstB (beatB R sn on) (2 ^ lv) ∧ C 1 11 = fstB (barB R sn on) (2 ^ lv) ∧ C 1 12 = bst (ndB R sn (2 ^ lv)) (2 ^ sn))
abbrev RBc : List (Nat × Option Nat) := [(1, some 8), (1, some 9), (1, some 10), (1, some 11), (1, some 12)]
abbrev RBr : List (Nat × Option Nat) := [(0, some 1), (0, some 7), (0, some 8), (1, none), (2, none), (4, none), (5, none)]
theorem agF_m (R : xM) (x f : Int32) (n : Nat) : agF (msk RBr R) x f n = agF R x f n := by
  induction n with
  | zero => rfl
  | succ n ih =>
    rw [agF, agF, ih]
    rfl
theorem hitB_m (R : xM) (sn N k : Nat) : hitB (msk RBr R) sn N k = hitB R sn N k := by
  induction N with
  | zero => rfl
  | succ n ih => rw [hitB, hitB, ih, agF_m]
theorem RB_m (C R : xM) : RB (msk RBc C) (msk RBr R) ↔ RB C R := by
  have e1 : ∀ sn, letB (msk RBr R) sn = letB R sn := fun sn => by
    funext r
    unfold letB
    rw [agF_m]
  have e2 : ∀ sn on, beatB (msk RBr R) sn on = beatB R sn on := fun sn on => by
    funext r
    unfold beatB
    rw [agF_m]
    rfl
  have e3 : ∀ sn on, barB (msk RBr R) sn on = barB R sn on := fun sn on => by
    funext r
    unfold barB
    rw [agF_m]
    rfl
  have e4 : ∀ sn N, ndB (msk RBr R) sn N = ndB R sn N := fun sn N => by
    funext r
    unfold ndB
    simp only [enP, hitB_m]
  unfold RB
  simp only [e1, e2, e3, e4]
  exact Iff.rfl
section SWEEP
variable {C R : xM}
theorem orN : ∀ k, k < 10 → ∀ a, a < 2 ^ k → nI a ||| ((1 : Int32) <<< (nI k &&& 31)) = nI (a + 2 ^ k) := by decide +kernel
theorem agN (R : xM) (x f : Int32) : ∀ k, k ≤ 10 → ∃ a : Nat, a < 2 ^ k ∧ agF R x f k = nI a := by
  intro k
  induction k with
  | zero => exact fun _ => ⟨0, by decide, rfl⟩
  | succ k ih =>
    intro hk
    obtain ⟨a, ha, e⟩ := ih (by omega)
    have hp : 2 ^ (k + 1) = 2 * 2 ^ k := by rw [Nat.pow_succ, Nat.mul_comm]
    rw [agF, e]
    by_cases h1 : R 4 k &&& (f ^^^ (-1)) = 0
    · rw [if_pos h1]
      exact ⟨a, by omega, rfl⟩
    · rw [if_neg h1]
      by_cases h2 : BC (x &&& R 4 k) ≤ R 5 k
      · rw [if_pos h2]
        exact ⟨a, by omega, rfl⟩
      · rw [if_neg h2, orN k (by omega) a ha]
        exact ⟨a + 2 ^ k, by omega, rfl⟩
theorem p2s {sn : Nat} (h : sn ≤ 10) : 2 ^ sn ≤ 1024 := Nat.pow_le_pow_right (n := 2) (by decide) h
theorem bef_eq {x y : Int32} {M N : xM} : P_X1_better x y M = P_X12_isBefore x y N := by
  unfold P_X1_better P_X12_isBefore P_X1_better_b36
  simp only [bcM]
  obtain ⟨a, ha, ea⟩ := bcn x (fun _ _ => 0)
  obtain ⟨b, hb, eb⟩ := bcn y (fun _ _ => 0)
  have ea' : BC x = nI a := by rw [← bcM x (fun _ _ => 0)]; exact ea
  have eb' : BC y = nI b := by rw [← bcM y (fun _ _ => 0)]; exact eb
  clear ea eb
  generalize BC x = X at ea' ⊢
  generalize BC y = Y at eb' ⊢
  subst ea' eb'
  have hs : (nI b - nI a).toInt = (b : Int) - a := pk_sub_toInt (by omega) (by omega)
  have h0 : (0 < nI b - nI a) ↔ a < b := by
    rw [Int32.lt_iff_toInt_lt, hs]
    show (0 : Int) < _ ↔ _
    omega
  have h1 : (nI b - nI a = 0) ↔ a = b := by
    rw [← Int32.toInt_inj, hs]
    show (b : Int) - a = 0 ↔ _
    omega
  have h2 : nI a = nI b ↔ a = b := nI_eq (by omega) (by omega)
  have h3 : nI b ≤ nI a ↔ b ≤ a := nI_leI (by omega) (by omega)
  have h4 : x &&& ((x ^^^ y) &&& (-(x ^^^ y))) = (x &&& (x ^^^ y)) &&& (-(x ^^^ y)) := by
    apply tb_ext
    intro p hp
    simp only [tb_and, Bool.and_assoc]
  rw [h4]
  by_cases c1 : a < b
  · rw [if_pos (h0.mpr c1), if_neg (fun z => by have := h2.mp z; omega), if_neg (fun z => by have := h3.mp z; omega)]
  · rw [if_neg (fun z => c1 (h0.mp z))]
    by_cases c2 : a = b
    · rw [if_pos (h1.mpr c2), if_pos (h2.mpr c2)]
    · rw [if_neg (fun z => c2 (h1.mp z)), if_neg (fun z => c2 (h2.mp z)), if_pos (h3.mpr (by omega))]
theorem nI_m1 {n : Nat} (h : 1 ≤ n) : nI n - 1 = nI (n - 1) := sub1 h
theorem hoC_loop {sn N : Nat} (h : SV C R sn) (h15 : ∀ k, k < 1024 → C 15 k = if hitB R sn N k = true then 1 else 0) (s : Int32) (fu : Nat) : ∀ (k i n : Nat), i + k = 2 ^ sn → k < n → 1 ≤ i → (∀ j, j < i → 1 ≤ j → hitB R sn N j = true → ¬ (nI j &&& s = 0)) → F_X0_holdsAll_b2 fu s n (nI i) C = some (if enP R sn N s then 1 else 0, C) := by
  obtain ⟨h1, h2, h3, q1, q2, q3⟩ := h
  have hb := p2s h1
  have hp := p2p sn
  intro k
  induction k with
  | zero =>
    intro i n hi hn hi1 hl
    obtain ⟨n, rfl⟩ : ∃ z, n = z + 1 := ⟨n - 1, by omega⟩
    obtain rfl : i = 2 ^ sn := by omega
    rw [F_X0_holdsAll_b2, h2, all_eq (by omega), if_pos ((dec_ge (by omega) (by omega)).mpr (by omega)), if_pos hl]
  | succ k ih =>
    intro i n hi hn hi1 hl
    obtain ⟨n, rfl⟩ : ∃ z, n = z + 1 := ⟨n - 1, by omega⟩
    rw [F_X0_holdsAll_b2, h2, all_eq (by omega), if_neg (fun z => by have := (dec_ge (n := 2 ^ sn) (j := i) (by omega) (by omega)).mp z; omega), at_ok (show i < 1024 by omega) (by decide), h15 i (by omega), F_X0_holdsAll_b33, add1]
    cases e : hitB R sn N i with
    | false =>
      rw [if_neg (show ¬ (false = true) by decide), if_neg (show ¬ ((0 : Int32) = 1) by decide)]
      refine ih (i + 1) n (by omega) (by omega) (by omega) fun j hj hj1 => ?_
      by_cases ej : j = i
      · subst ej
        rw [e]
        exact fun z => absurd z (by decide)
      · exact hl j (by omega) hj1
    | true =>
      rw [if_pos (show true = true from rfl), if_pos (show (1 : Int32) = 1 from rfl)]
      by_cases h5 : nI i &&& s = 0
      · rw [if_pos h5, if_neg (fun z => z i (by omega) hi1 e h5)]
      · rw [if_neg h5]
        refine ih (i + 1) n (by omega) (by omega) (by omega) fun j hj hj1 hh => ?_
        by_cases ej : j = i
        · subst ej
          exact h5
        · exact hl j (by omega) hj1 hh
theorem hoC {sn N : Nat} (h : SV C R sn) (h15 : ∀ k, k < 1024 → C 15 k = if hitB R sn N k = true then 1 else 0) (s : Int32) {fu : Nat} (hfu : 70000 ≤ fu) : F_X0_holdsAll fu s C = some (if enP R sn N s then 1 else 0, C) :=
  hoC_loop h h15 s fu (2 ^ sn - 1) 1 fu (by have := p2p sn; omega) (by have := p2s h.1; omega) (by omega) (fun j hj hj1 => absurd hj (by omega))
theorem fullB : ∀ n, n ≤ 10 → ∀ i, i < 2 ^ n - 1 → ¬ P_X12_isBefore (nI i) (nI (2 ^ n - 1)) (fun _ _ => 0) = 0 := by decide +kernel
theorem fullS : ∀ n, n ≤ 10 → P_X12_isBefore (nI (2 ^ n - 1)) (nI (2 ^ n - 1)) (fun _ _ => 0) = 0 := by decide +kernel
theorem fullA : ∀ n, n ≤ 10 → ∀ i, i < 2 ^ n → 1 ≤ i → ¬ (nI i &&& nI (2 ^ n - 1) = 0) := by decide +kernel
end SWEEP
