/-! sees -/
def plF (R : xM) (sn : Nat) (row : Int32) (tm l : Nat) (f : Int32) : Nat := if (tb row l && decide (agF R row f sn = 0)) = true then tm else 0
def bhV (p : aS) (c q : Nat) : Nat := (p.2.1 c + (if p.2.2.2.1 c = true then 0 else q)) % p.2.2.1 c
def qB (R : xM) (p : aS) (on sn lv : Nat) (row : Int32) (tm c : Nat) : Nat := if anyB (fun l => decide (p.1 l = c) && (tb row l && letP R p on sn row)) lv = true then tm else 0
abbrev wrT : List (Nat × Option Nat) := [(0, some 0), (0, some 42), (0, some 43), (19, none), (20, none), (21, none), (23, none), (28, none), (29, none)]
section TRIAL2
variable {R C : xM} {m lv on mn sn fu t tm : Nat} {row : Int32}
theorem anyB_one {f : Nat → Bool} {d : Nat} : ∀ {n : Nat}, d < n → (∀ l, l < n → ¬ l = d → f l = false) → anyB f n = f d := by
  intro n
  induction n with
  | zero => exact fun h => absurd h (by omega)
  | succ n ih =>
    intro hd h
    rw [anyB]
    by_cases e : d = n
    · subst e
      have : ∀ k, k ≤ d → anyB f k = false := by
        intro k
        induction k with
        | zero => exact fun _ => rfl
        | succ k ihk =>
          intro hk
          rw [anyB, ihk (by omega), h k (by omega) (by omega)]
          rfl
      rw [this d (Nat.le_refl _), Bool.false_or]
    · rw [ih (by omega) (fun l hl hne => h l (by omega) hne), h n (by omega) (fun z => e z.symm), Bool.or_false]
theorem anyB_none {f : Nat → Bool} : ∀ {n : Nat}, (∀ l, l < n → f l = false) → anyB f n = false := by
  intro n
  induction n with
  | zero => exact fun _ => rfl
  | succ n ih =>
    intro h
    rw [anyB, ih (fun l hl => h l (by omega)), h n (by omega)]
    rfl
/-- what the reference finds behind a TEST -/
theorem bh_ok {S : xM} {p : aS} (hfu : 70000 ≤ fu) (hA : AR S p) (hp : okA p) (hP : SP' C R S p on sn) (hlv : lv ≤ 16) (s1 : S 0 1 = nI lv) (ht : t < 8) (s26 : S 26 t = row) (s27 : S 27 t = nI tm) (htm : tm ≤ 200) {c : Nat} (hc : c < 16) : F_X12_behind fu (nI t) (nI c) S = some (nI (bhV p c (qB R p on sn lv row tm c)), S) := by
  have hlet := ln_ok hfu hP row
  obtain ⟨a1, a2, a3⟩ := hA
  have hcw := hp.2.2 c hc
  have hcs := hp.2.1 c hc
  have loop : ∀ k l n, l + k = lv → k < n → F_X12_behind_b5 fu (nI t) (nI c) n (if anyB (fun l => decide (p.1 l = c) && (tb row l && letP R p on sn row)) l = true then nI tm else 0) (nI l) S = some (nI (bhV p c (qB R p on sn lv row tm c)), S) := by
    intro k
    induction k with
    | zero =>
      intro l n hl hn
      obtain ⟨n, rfl⟩ : ∃ z, n = z + 1 := ⟨n - 1, by omega⟩
      obtain rfl : l = lv := by omega
      have eq' : (if anyB (fun l => decide (p.1 l = c) && (tb row l && letP R p on sn row)) l = true then nI tm else 0) = nI (qB R p on sn l row tm c) := by
        unfold qB
        split <;> rfl
      have hq : qB R p on sn l row tm c ≤ 200 := by
        unfold qB
        split <;> omega
      rw [F_X12_behind_b5, s1, if_pos (nI_le (Nat.le_refl _) (by omega)), eq']
      generalize qB R p on sn l row tm c = q at hq
      unfold F_X12_shown F_X12_shown_b20
      have rem : ∀ x, x ≤ 2000 → nI x - nI x / 1000 * 1000 = nI (x % 1000) := fun x hx => pk_rem (d := 1000) (by omega) (by decide) (by decide)
      have rem2 : ∀ x, x < 1000 → nI x - nI x / nI (p.2.2.1 c) * nI (p.2.2.1 c) = nI (x % p.2.2.1 c) := fun x hx => pk_rem (by omega) (by omega) (by omega)
      have mm : ∀ x, x % 1000 % p.2.2.1 c = x % p.2.2.1 c := fun x => by
        rcases hcw with h | h | h <;> rw [h] <;> omega
      obtain ⟨e19, e20, e21⟩ := a1 c hc
      rw [if_neg (idx_no hc (by decide)), if_neg (idx_no hc (by decide)), nI_clamp (by omega), a2 c hc, e20, e21, if_neg (show ¬ ((1000 : Int32) = 0) by decide), if_neg (show ¬ ((1000 : Int32) = 0) by decide), if_neg (idx_no2 hc (by decide)), if_neg (idx_no2 hc (by decide)), if_neg (nI_ne0 (by omega) (by omega)), if_neg (nI_ne0 (by omega) (by omega))]
      unfold bhV
      cases hd : p.2.2.2.1 c with
      | true =>
        rw [if_pos rfl, if_neg (show ¬ ((1 : Int32) = 0) by decide), if_pos rfl, Int32.add_zero, Nat.add_zero]
        simp only [Option.bind_some]
        rw [rem _ (by omega), rem2 _ (Nat.mod_lt _ (by decide)), mm]
      | false =>
        rw [if_neg (show ¬ (false = true) by decide), if_pos rfl, if_neg (show ¬ (false = true) by decide), nI_add]
        simp only [Option.bind_some]
        rw [rem _ (by omega), rem2 _ (Nat.mod_lt _ (by decide)), mm]
    | succ k ih =>
      intro l n hl hn
      obtain ⟨n, rfl⟩ : ∃ z, n = z + 1 := ⟨n - 1, by omega⟩
      have hl16 : l < 16 := by omega
      have I := ih (l + 1) n (by omega) (by omega)
      rw [anyB] at I
      have hpl := hp.1 l hl16
      rw [F_X12_behind_b5, s1, if_neg (show ¬ nI lv ≤ nI l from nI_ge (by omega) (by omega)), if_neg (idx_no hl16 (by decide)), nI_clamp (by omega), (a1 l hl16).1, if_neg (idx_no ht (by decide)), if_neg (idx_no ht (by decide)), nI_clamp (by omega), s26, has12_tb (show l < 32 by omega), hlet]
      simp only [F_X12_behind_b59, Option.bind_some, add1]
      by_cases e : p.1 l = c
      · rw [if_pos (by rw [e])]
        rw [decide_eq_true e, Bool.true_and] at I
        cases ht2 : tb row l with
        | false =>
          rw [ht2, Bool.false_and, Bool.or_false] at I
          rw [if_neg (show ¬ (false = true) by decide), if_pos rfl]
          exact I
        | true =>
          rw [ht2, Bool.true_and] at I
          rw [if_pos rfl, if_neg (show ¬ ((1 : Int32) = 0) by decide)]
          cases hL : letP R p on sn row with
          | false =>
            simp only [hL, Bool.or_false] at I
            rw [if_pos (show b2i false = 0 from rfl)]
            exact I
          | true =>
            simp only [hL, Bool.or_true, if_true] at I
            rw [if_neg (show ¬ b2i true = 0 by decide), if_neg (idx_no2 ht (by decide)), s27]
            exact I
      · rw [if_neg (fun z => e ((nI_eq (by omega) (by omega)).mp z))]
        rw [decide_eq_false e, Bool.false_and, Bool.or_false] at I
        exact I
  exact loop lv 0 fu (by omega) (by omega)
/-- what a LEVER is pulled in a TEST, as the class has it -/
theorem pu_ok {M : xM} (hfu : 70000 ≤ fu) (hs : SV M R sn) (ht : t < 8) (m43 : M 43 t = row) (m44 : M 44 t = nI tm) {l : Nat} (hl : l < 16) (f : Int32) : F_X10_pulls fu (nI t) (nI l) f M = some (nI (plF R sn row tm l f), M) := by
  unfold F_X10_pulls F_X10_pulls_b36 F_X10_pulls_b37 plF
  rw [at_ok ht (by decide), at_ok ht (by decide), m43, m44, has_tb (show l ≤ 30 by omega), agC hs _ _ hfu]
  simp only [Option.bind_some, if_true, if_neg (show ¬ ((1 : Int32) = 0) by decide)]
  cases tb row l with
  | false => rw [if_neg (show ¬ (false = true) by decide), if_pos rfl]; rfl
  | true =>
    rw [if_pos rfl, if_neg (show ¬ ((1 : Int32) = 0) by decide), Bool.true_and]
    by_cases z : agF R row f sn = 0
    · rw [if_pos z, decide_eq_true z, if_pos rfl, at_ok ht (by decide), m44]
    · rw [if_neg z, decide_eq_false z, if_neg (by decide)]
      rfl
theorem pl_le (row : Int32) (l : Nat) (f : Int32) (h : tm ≤ 200) : plF R sn row tm l f ≤ 200 := by
  unfold plF
  split <;> omega
theorem let0 {p : aS} (hs : SV C R sn) (hoff : ∀ o, p.2.2.2.2 o = false) : letP R p on sn row = decide (agF R row 0 sn = 0) := by
  have hf : ∀ k, fre R p on k = false := fun k => anyB_none (fun o _ => by rw [hoff o]; rfl)
  have f0' : (0 : Int32) ^^^ (-1) = -1 := by decide
  by_cases z : agF R row 0 sn = 0
  · rw [decide_eq_true z]
    refine letP_iff.mpr fun k hk => Or.inr ?_
    rcases (agF_0 R row 0 hs.1).mp z k hk with y | y
    · rw [f0', andm1] at y
      obtain ⟨a, ha, ea⟩ := hs.2.2.2.2.2 k (by have := hs.1; omega)
      rw [y, and0', bc0, ea]
      exact (show nI 0 ≤ nI a from nI_le (Nat.zero_le _) (by omega))
    · exact y
  · rw [decide_eq_false z]
    cases hL : letP R p on sn row with
    | false => rfl
    | true =>
      exact absurd ((agF_0 R row 0 hs.1).mpr fun k hk => by
        rcases letP_iff.mp hL k hk with y | y
        · rw [hf k] at y
          exact absurd y (by decide)
        · exact Or.inr y) z
theorem let4 {a : Nat} (hs : SV C R sn) (hz : ∀ o, on ≤ o → o < 6 → R 1 o = 0) (ha : a < 6) {p : aS} (hoff : ∀ o, p.2.2.2.2 o = decide (o = a)) : letP R p on sn row = decide (agF R row (R 1 a) sn = 0) := by
  have f0' : (0 : Int32) ^^^ (-1) = -1 := by decide
  by_cases hao : a < on
  · have hf : ∀ k, fre R p on k = decide (R 4 k &&& (R 1 a ^^^ (-1)) = 0) := fun k => by
      unfold fre
      rw [anyB_one (d := a) hao (fun o _ hne => by rw [hoff o, decide_eq_false hne]; rfl), hoff a, decide_eq_true rfl, Bool.true_and]
    by_cases z : agF R row (R 1 a) sn = 0
    · rw [decide_eq_true z]
      refine letP_iff.mpr fun k hk => ?_
      rw [hf k]
      rcases (agF_0 R row (R 1 a) hs.1).mp z k hk with y | y
      · exact Or.inl (decide_eq_true y)
      · exact Or.inr y
    · rw [decide_eq_false z]
      cases hL : letP R p on sn row with
      | false => rfl
      | true =>
        exact absurd ((agF_0 R row (R 1 a) hs.1).mpr fun k hk => by
          rcases letP_iff.mp hL k hk with y | y
          · rw [hf k] at y
            exact Or.inl (of_decide_eq_true y)
          · exact Or.inr y) z
  · rw [hz a (by omega) ha]
    have e : letP R p on sn row = letP R a0S on sn row := by
      unfold letP
      congr 1
      funext k
      have h1 : fre R p on k = false := anyB_none (fun o ho => by rw [hoff o, decide_eq_false (by omega)]; rfl)
      have h2 : fre R a0S on k = false := anyB_none (fun o ho => rfl)
      rw [h1, h2]
    rw [e]
    exact let0 hs (fun _ => rfl)
end TRIAL2
