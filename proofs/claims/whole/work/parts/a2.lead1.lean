/-! LEADS: the class's tables -/
def pr (m a b : Nat) : Nat := m * 256 + a * 16 + b
def adv (fu : Nat) (R : xM) (lv m o a b s : Nat) : Int32 := nI (loP R m s a) - nI (hiP fu R lv m s o b)
def mnC (p : Nat → Bool) (f : Nat → Int32) : Nat → Int32
  | 0 => 1000000
  | i + 1 => if p i = true then jmin (mnC p f i) (f i) else mnC p f i
def mnH (p : Nat → Bool) (f : Nat → Int32) : Nat → Int32
  | 0 => -100000
  | i + 1 => if p i = true then (if mnH p f i = -100000 then f i else jmin (mnH p f i) (f i)) else mnH p f i
def anyB (p : Nat → Bool) : Nat → Bool
  | 0 => false
  | i + 1 => anyB p i || p i
def lvl (R M0 : xM) (r m lv o : Nat) (x2 : Int32) (a b : Nat) : Int32 := if tb x2 a = true ∧ R 3 b = nI o ∧ b < lv then jmin (M0 r (pr m a b)) (M0 37 a - M0 38 b) else M0 r (pr m a b)
def LI (R M0 : xM) (r m lv o : Nat) (x2 : Int32) (M : xM) (a b : Nat) : Prop := (∀ k j, k ≠ r → M k j = M0 k j) ∧ (∀ j, j < m * 256 ∨ m * 256 + 256 ≤ j → M r j = M0 r j) ∧ ∀ a' b', a' < 16 → b' < 16 → M r (pr m a' b') = if a' < a ∨ (a' = a ∧ b' < b) then lvl R M0 r m lv o x2 a' b' else M0 r (pr m a' b')
section LEAD1
variable {R C : xM} {m lv on mn fu : Nat}
theorem pair_ok (m a b : Nat) (M : xM) : P_X8_pair (nI m) (nI a) (nI b) M = nI (pr m a b) := by
  unfold P_X8_pair pr
  rw [show (256 : Int32) = nI 256 from rfl, show (16 : Int32) = nI 16 from rfl, pk_mul, pk_mul, nI_add, nI_add]
theorem pr_inj {m a b a' b' : Nat} (hb : b < 16) (hb' : b' < 16) : pr m a b = pr m a' b' ↔ a = a' ∧ b = b' := by
  unfold pr
  omega
theorem lw_in {M0 : xM} {r o : Nat} {x2 : Int32} (hr39 : r = 39 ∨ r = 40) (hm : m < 6) (hlv : lv ≤ 16) (ho : o < 6) (h10 : M0 1 0 = nI lv) (h11 : ∀ l, l < lv → (tb (M0 11 o) l = true ↔ R 3 l = nI o)) (K : Int32 → xM → Option xM) {a : Nat} (ha : a < lv) : ∀ k b n M, b + k = lv → k < n → LI R M0 r m lv o x2 M a b → ∃ M', F_X8_lower_b18 fu r 1536 (nI m) (nI o) x2 K n (nI a) (nI b) M = K (nI (a + 1)) M' ∧ LI R M0 r m lv o x2 M' (a + 1) 0 := by
  have r1 : ¬ 1 = r := by omega
  have r11 : ¬ 11 = r := by omega
  have r37 : ¬ 37 = r := by omega
  have r38 : ¬ 38 = r := by omega
  intro k
  induction k with
  | zero =>
    intro b n M hb hn hI
    obtain ⟨n, rfl⟩ : ∃ z, n = z + 1 := ⟨n - 1, by omega⟩
    obtain rfl : b = lv := by omega
    obtain ⟨i1, i2, i3⟩ := hI
    have done : LI R M0 r m b o x2 M (a + 1) 0 := ⟨i1, i2, fun a' b' h1 h2 => by
      rw [i3 a' b' h1 h2]
      by_cases z : a' < a ∨ a' = a ∧ b' < b
      · rw [if_pos z, if_pos (by omega)]
      · rw [if_neg z]
        by_cases z2 : a' < a + 1 ∨ a' = a + 1 ∧ b' < 0
        · rw [if_pos z2]
          unfold lvl
          rw [if_neg (fun y => by omega)]
        · rw [if_neg z2]⟩
    rw [F_X8_lower_b18, i1 1 0 (by omega), h10, if_pos (nI_le (Nat.le_refl b) (by omega))]
    unfold F_X8_lower_b106
    rw [add1]
    refine ⟨M, ?_, done⟩
    split <;> rfl
  | succ k ih =>
    intro b n M hb hn hI
    obtain ⟨n, rfl⟩ : ∃ z, n = z + 1 := ⟨n - 1, by omega⟩
    have hI0 := hI
    obtain ⟨i1, i2, i3⟩ := hI
    have hb16 : b < 16 := by omega
    have ha16 : a < 16 := by omega
    have hpr : pr m a b < 1536 := by
      unfold pr
      omega
    rw [F_X8_lower_b18, i1 1 0 (by omega), h10, if_neg (show ¬ nI lv ≤ nI b from nI_ge (by omega) (by omega)), has_tb (show a ≤ 30 by omega)]
    simp only [F_X8_lower_b106, F_X8_lower_b100, add1]
    cases ht : tb x2 a with
    | false =>
      rw [if_neg (show ¬ (false = true) by decide), if_pos rfl]
      refine ⟨M, rfl, i1, i2, fun a' b' h1 h2 => ?_⟩
      rw [i3 a' b' h1 h2]
      by_cases z : a' < a ∨ a' = a ∧ b' < b
      · rw [if_pos z, if_pos (by omega)]
      · rw [if_neg z]
        by_cases z2 : a' < a + 1 ∨ a' = a + 1 ∧ b' < 0
        · rw [if_pos z2]
          have e : a' = a := by omega
          subst e
          unfold lvl
          rw [if_neg (fun y => by rw [ht] at y; exact absurd y.1 (by decide))]
        · rw [if_neg z2]
    | true =>
      rw [if_pos rfl, if_neg (show ¬ ((1 : Int32) = 0) by decide), P_X0_leversOf, at_ok ho (by decide), i1 11 o (by omega), has_tb (show b ≤ 30 by omega)]
      have hb11 := h11 b (by omega)
      by_cases hrb : R 3 b = nI o
      · rw [hb11.mpr hrb, if_pos rfl, if_neg (show ¬ ((1 : Int32) = 0) by decide), pair_ok, P_X2_low, P_X2_high, at_ok hpr (by decide), at_ok ha16 (by decide), at_ok hb16 (by decide), put_ok hpr (by decide), i1 37 a (by omega), i1 38 b (by omega)]
        simp only [Option.bind_some]
        have ev : M r (pr m a b) = M0 r (pr m a b) := by
          rw [i3 a b ha16 hb16, if_neg (by omega)]
        rw [ev]
        refine ih (b + 1) n _ (by omega) (by omega) ⟨fun k j hk => ?_, fun j hj => ?_, fun a' b' h1 h2 => ?_⟩
        · rw [← i1 k j hk]
          unfold xset
          rw [if_neg (fun z => hk z.1)]
        · rw [← i2 j hj]
          unfold xset
          rw [if_neg (fun z => by
            have := z.2
            unfold pr at this
            omega)]
        · by_cases e : a' = a ∧ b' = b
          · obtain ⟨rfl, rfl⟩ := e
            rw [if_pos (by omega)]
            unfold lvl
            rw [if_pos ⟨ht, hrb, by omega⟩]
            simp [xset]
          · have e2 : (xset M r (pr m a b) (jmin (M0 r (pr m a b)) (M0 37 a - M0 38 b))) r (pr m a' b') = M r (pr m a' b') := by
              unfold xset
              rw [if_neg (fun z => e ((pr_inj h2 hb16).mp z.2))]
            rw [e2, i3 a' b' h1 h2]
            by_cases z : a' < a ∨ a' = a ∧ b' < b
            · rw [if_pos z, if_pos (by omega)]
            · rw [if_neg z, if_neg (by omega)]
      · have ht2 : tb (M0 11 o) b = false := by
          cases hbb : tb (M0 11 o) b with
          | false => rfl
          | true => exact absurd (hb11.mp hbb) hrb
        rw [ht2, if_neg (show ¬ (false = true) by decide), if_pos rfl]
        refine ih (b + 1) n M (by omega) (by omega) ⟨i1, i2, fun a' b' h1 h2 => ?_⟩
        rw [i3 a' b' h1 h2]
        by_cases z : a' < a ∨ a' = a ∧ b' < b
        · rw [if_pos z, if_pos (by omega)]
        · rw [if_neg z]
          by_cases z2 : a' < a ∨ a' = a ∧ b' < b + 1
          · rw [if_pos z2]
            have e : a' = a ∧ b' = b := by omega
            obtain ⟨rfl, rfl⟩ := e
            unfold lvl
            rw [if_neg (fun y => hrb y.2.1)]
          · rw [if_neg z2]
theorem lw_ok {M0 : xM} {r o : Nat} {x2 : Int32} (hfu : 70000 ≤ fu) (hr39 : r = 39 ∨ r = 40) (hm : m < 6) (hlv : lv ≤ 16) (ho : o < 6) (h10 : M0 1 0 = nI lv) (h11 : ∀ l, l < lv → (tb (M0 11 o) l = true ↔ R 3 l = nI o)) : ∃ M', F_X8_lower fu r 1536 (nI m) (nI o) x2 M0 = some M' ∧ (∀ k j, k ≠ r → M' k j = M0 k j) ∧ (∀ j, j < m * 256 ∨ m * 256 + 256 ≤ j → M' r j = M0 r j) ∧ ∀ a b, a < lv → b < lv → M' r (pr m a b) = if tb x2 a = true ∧ R 3 b = nI o then jmin (M0 r (pr m a b)) (M0 37 a - M0 38 b) else M0 r (pr m a b) := by
  have outer : ∀ k a n M, a + k = lv → k < n → LI R M0 r m lv o x2 M a 0 → ∃ M', F_X8_lower_b3 fu r 1536 (nI m) (nI o) x2 n (nI a) M = some M' ∧ LI R M0 r m lv o x2 M' lv 0 := by
    intro k
    induction k with
    | zero =>
      intro a n M ha hn hI
      obtain ⟨n, rfl⟩ : ∃ z, n = z + 1 := ⟨n - 1, by omega⟩
      obtain rfl : a = lv := by omega
      rw [F_X8_lower_b3, hI.1 1 0 (by omega), h10, if_pos (nI_le (Nat.le_refl a) (by omega))]
      exact ⟨M, rfl, hI⟩
    | succ k ih =>
      intro a n M ha hn hI
      obtain ⟨n, rfl⟩ : ∃ z, n = z + 1 := ⟨n - 1, by omega⟩
      obtain ⟨M1, e1, hI1⟩ := lw_in (fu := fu) hr39 hm hlv ho h10 h11 (F_X8_lower_b3 fu r 1536 (nI m) (nI o) x2 n) (show a < lv by omega) lv 0 fu M (by omega) (by omega) hI
      rw [F_X8_lower_b3, hI.1 1 0 (by omega), h10, if_neg (show ¬ nI lv ≤ nI a from nI_ge (by omega) (by omega)), show F_X8_lower_b18 fu r 1536 (nI m) (nI o) x2 (F_X8_lower_b3 fu r 1536 (nI m) (nI o) x2 n) fu (nI a) 0 M = _ from e1]
      exact ih (a + 1) n M1 (by omega) (by omega) hI1
  obtain ⟨M', e1, i1, i2, i3⟩ := outer lv 0 fu M0 (by omega) (by omega) ⟨fun _ _ _ => rfl, fun _ _ => rfl, fun a' b' _ _ => by rw [if_neg (by omega)]⟩
  refine ⟨M', e1, i1, i2, fun a b ha hb => ?_⟩
  rw [i3 a b (by omega) (by omega), if_pos (by omega)]
  unfold lvl
  by_cases z : tb x2 a = true ∧ R 3 b = nI o
  · rw [if_pos ⟨z.1, z.2, hb⟩, if_pos z]
  · rw [if_neg (fun y => z ⟨y.1, y.2.1⟩), if_neg z]
-- numbers
def bd3 (x : Int32) : Prop := -100000 < x.toInt ∧ x.toInt < 1000000
theorem jmin_or (x y : Int32) : jmin x y = x ∨ jmin x y = y := by
  unfold jmin
  split
  · exact Or.inr rfl
  · exact Or.inl rfl
theorem bd3_ne {x : Int32} (h : bd3 x) : ¬ x = -100000 := by
  rintro rfl
  have := h.1
  exact absurd this (by decide)
theorem jmin_far {x : Int32} (h : bd3 x) : jmin 1000000 x = x := by
  unfold jmin
  rw [if_pos]
  rw [Int32.lt_iff_toInt_lt]
  exact h.2
theorem mn_eq {p : Nat → Bool} {f : Nat → Int32} (hf : ∀ i, p i = true → bd3 (f i)) : ∀ n, (anyB p n = true → mnC p f n = mnH p f n ∧ bd3 (mnH p f n)) ∧ (anyB p n = false → mnC p f n = 1000000 ∧ mnH p f n = -100000) := by
  intro n
  induction n with
  | zero => exact ⟨fun h => absurd (show false = true from h) (by decide), fun _ => ⟨rfl, rfl⟩⟩
  | succ n ih =>
    obtain ⟨i1, i2⟩ := ih
    rw [anyB, mnC, mnH]
    cases hp : p n with
    | false =>
      rw [Bool.or_false, if_neg (by decide), if_neg (by decide)]
      exact ⟨i1, i2⟩
    | true =>
      rw [Bool.or_true, if_pos rfl, if_pos rfl]
      refine ⟨fun _ => ?_, fun h => absurd h (by decide)⟩
      have hb := hf n hp
      cases ha : anyB p n with
      | false =>
        obtain ⟨q1, q2⟩ := i2 ha
        rw [q1, q2, if_pos rfl, jmin_far hb]
        exact ⟨rfl, hb⟩
      | true =>
        obtain ⟨q1, q2⟩ := i1 ha
        rw [q1, if_neg (bd3_ne q2)]
        refine ⟨rfl, ?_⟩
        rcases jmin_or (mnH p f n) (f n) with z | z <;> rw [z] <;> assumption
theorem adv_bd (hW : FW fu lv on mn C R) (hm : m < mn) {a b : Nat} (ha : a < lv) (hb : b < lv) (o s : Nat) : bd3 (adv fu R lv m o a b s) ∧ loP R m s a ≤ 999 ∧ hiP fu R lv m s o b ≤ 1998 := by
  obtain ⟨F, hF, eF, ecl, hQ, _, hk, hA0, eV, hV, eC23⟩ := mf_ok hW hm
  have hp : okA (pS R m s) := by
    unfold pS
    rw [ecl]
    exact hA0 s F (Nat.le_refl F)
  have hl := hW.b16
  have h1 := low_le (T := shw R m) hp (show a < 16 by omega)
  have h2 := low_le (T := shw R m) hp (show b < 16 by omega)
  have h3 : hiP fu R lv m s o b ≤ 1998 := by
    unfold hiP hiL
    have : moL R (pS R m s) (shw R m) (Vm fu R m) lv o b ≤ Vm fu R m := by
      unfold moL
      split
      · omega
      · exact Nat.le_trans (Nat.min_le_left _ _) (Nat.sub_le _ _)
    omega
  have h4 : loP R m s a ≤ 999 := h1
  refine ⟨?_, h4, h3⟩
  unfold bd3 adv
  rw [pk_sub_toInt (by omega) (by omega)]
  omega
end LEAD1
