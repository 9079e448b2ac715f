/-! The reference: whether a set FITS; the greatest PULLS -/
/-- what the reference reads in all this -/
def SV' (R S : xM) (m lv on : Nat) (p : aS) (T : Nat → Nat) (V : Nat) : Prop := AR S p ∧ S 0 43 = nI m ∧ S 0 44 = nI V ∧ V ≤ 999 ∧ (∀ c, c < 16 → S 12 (m * 16 + c) = nI (T c) ∧ T c ≤ 999) ∧ S 0 1 = nI lv ∧ S 0 7 = nI on ∧ (∀ j, S 3 j = R 3 j) ∧ (∀ o, o < 6 → S 2 o = nI (kO R o) ∧ kO R o ≤ 63) ∧ lv ≤ 16 ∧ on ≤ 6 ∧ m < 6 ∧ okA p
def boO (R : xM) (p : aS) (V o : Nat) : Nat := if p.2.2.2.2 o = true then 1000000 else kO R o * V
def moL (R : xM) (p : aS) (T : Nat → Nat) (V lv o l : Nat) : Nat := if p.2.2.2.2 o = true then V - lowL p T l else min (V - lowL p T l) (kO R o * V - smL R (lowL p T) o lv)
def hiL (R : xM) (p : aS) (T : Nat → Nat) (V lv o l : Nat) : Nat := lowL p T l + moL R p T V lv o l - moL R p T V lv o l % stpL p l
section FIT4
variable {R S : xM} {m lv on V fu : Nat} {p : aS} {T : Nat → Nat}
theorem SV'.s22 {M : xM} {j : Nat} {v : Int32} (h : SV' R S m lv on p T V) (hM : ∀ a i, a ≠ 22 → M a i = S a i) : SV' R M m lv on p T V := by
  obtain ⟨⟨a1, a2, a3⟩, h2, h3, h4, h5, h6, h7, h8, h9, h10⟩ := h
  refine ⟨⟨fun l hl => ?_, fun l hl => ?_, fun o ho => ?_⟩, (hM 0 43 (by decide)).trans h2, (hM 0 44 (by decide)).trans h3, h4, fun c hc => ?_, (hM 0 1 (by decide)).trans h6, (hM 0 7 (by decide)).trans h7, fun j => (hM 3 j (by decide)).trans (h8 j), fun o ho => ?_, h10⟩
  · rw [hM 19 l (by decide), hM 20 l (by decide), hM 21 l (by decide)]
    exact a1 l hl
  · rw [hM 23 l (by decide)]
    exact a2 l hl
  · rw [hM 0 42 (by decide)]
    exact a3 o ho
  · rw [hM 12 _ (by decide)]
    exact h5 c hc
  · rw [hM 2 o (by decide)]
    exact h9 o ho
theorem fl_loop (hS : SV' R S m lv on p T V) (hfu : 70000 ≤ fu) (x1 x2 : Int32) : ∀ k i n M, i + k = lv → k < n → (∀ a j, a ≠ 22 → M a j = S a j) → (∀ j, j < i → ¬ R 3 j = -1 → M 22 j = nI (lowL p T j)) → allB (fL R p T V) i = true →
    ∃ M', (∀ a j, a ≠ 22 → M' a j = S a j) ∧ (if allB (fL R p T V) lv = true then (F_X12_fits_b21 fu x1 x2 n (nI i) M = F_X12_fits_b112 fu x1 x2 fu 0 M' ∧ ∀ j, j < lv → ¬ R 3 j = -1 → M' 22 j = nI (lowL p T j)) else F_X12_fits_b21 fu x1 x2 n (nI i) M = some (0, M')) := by
  intro k
  induction k with
  | zero =>
    intro i n M hi hn hM hL hB
    obtain ⟨n, rfl⟩ : ∃ z, n = z + 1 := ⟨n - 1, by omega⟩
    obtain rfl : i = lv := by omega
    obtain ⟨hA, h43, h44, hV, hT, h1, h7, h3, h2, hlv, hon, hm, hp⟩ := hS
    refine ⟨M, hM, ?_⟩
    rw [hB, if_pos rfl, F_X12_fits_b21, hM 0 1 (by decide), h1, if_pos (nI_le (Nat.le_refl i) (by omega))]
    exact ⟨rfl, hL⟩
  | succ k ih =>
    intro i n M hi hn hM hL hB
    obtain ⟨n, rfl⟩ : ∃ z, n = z + 1 := ⟨n - 1, by omega⟩
    have hS0 := hS
    obtain ⟨hA, h43, h44, hV, hT, h1, h7, h3, h2, hlv, hon, hm, hp⟩ := hS
    have hi16 : i < 16 := by omega
    rw [F_X12_fits_b21, hM 0 1 (by decide), h1, if_neg (show ¬ nI lv ≤ nI i from nI_ge (by omega) (by omega)), if_neg (idx_no hi16 (by decide)), nI_clamp (by omega), hM 3 i (by decide), h3]
    by_cases hr : R 3 i = -1
    · rw [if_pos hr]
      unfold F_X12_fits_b104
      rw [add1]
      have hB1 : allB (fL R p T V) (i + 1) = true := by
        rw [allB, hB, Bool.true_and]
        unfold fL
        rw [decide_eq_true hr, Bool.true_or]
      refine ih (i + 1) n M (by omega) (by omega) hM (fun j hj hrj => ?_) hB1
      by_cases e : j = i
      · subst e
        exact absurd hr hrj
      · exact hL j (by omega) hrj
    · rw [if_neg hr, if_neg (idx_no2 hi16 (by decide))]
      have hSM : SV' R M m lv on p T V := hS0.s22 (j := 0) (v := 0) hM
      obtain ⟨hA', h43', h44', _, hT', _⟩ := hSM
      rw [show F_X12_fits_b49 fu x1 x2 (F_X12_fits_b21 fu x1 x2 n) fu (nI i) (xset M 22 i 0) = _ from lst_loop (lv := lv) hm hp hA' h43' h44' hV hT' hi16 fu x1 x2 (F_X12_fits_b21 fu x1 x2 n) (V + 1) 0 fu (by omega) (by omega) (fun u hu => absurd hu (by omega))]
      cases hf : fitL p T V i with
      | true =>
        rw [if_pos rfl]
        have hB1 : allB (fL R p T V) (i + 1) = true := by
          rw [allB, hB, Bool.true_and]
          unfold fL
          rw [hf, Bool.or_true]
        refine ih (i + 1) n _ (by omega) (by omega) (fun a j ha => ?_) (fun j hj hrj => ?_) hB1
        · rw [← hM a j ha]
          unfold xset
          rw [if_neg (fun z => ha z.1)]
        · by_cases e : j = i
          · subst e
            simp [xset]
          · rw [← hL j (by omega) hrj]
            simp [xset, e]
      | false =>
        have hB1 : fL R p T V i = false := by
          unfold fL
          rw [decide_eq_false hr, hf]
          rfl
        rw [if_neg (by decide)]
        refine ⟨xset M 22 i (nI (V + 1)), fun a j ha => ?_, ?_⟩
        · rw [← hM a j ha]
          unfold xset
          rw [if_neg (fun z => ha z.1)]
        · rw [allB_no hB1 (show i < lv by omega), if_neg (by decide)]
theorem sm_le (hp : okA p) (o : Nat) : ∀ n, n ≤ 16 → smL R (lowL p T) o n ≤ 999 * n := by
  intro n
  induction n with
  | zero => exact fun _ => Nat.le_refl 0
  | succ n ih =>
    intro hn
    have h1 := ih (by omega)
    have h2 := low_le (T := T) hp (show n < 16 by omega)
    rw [smL]
    split <;> omega
/-- the sum of the least -/
theorem sm_ok {M : xM} (hM1 : M 0 1 = nI lv) (hlv : lv ≤ 16) (hM3 : ∀ j, M 3 j = R 3 j) (hp : okA p) {o : Nat} (hr : ∀ j, j < lv → R 3 j = nI o → M 22 j = nI (lowL p T j)) : ∀ k i n, i + k = lv → k < n → F_X12_sumOfLeast_b4 fu (nI o) n (nI (smL R (lowL p T) o i)) (nI i) M = some (nI (smL R (lowL p T) o lv), M) := by
  intro k
  induction k with
  | zero =>
    intro i n hi hn
    obtain ⟨n, rfl⟩ : ∃ z, n = z + 1 := ⟨n - 1, by omega⟩
    obtain rfl : i = lv := by omega
    rw [F_X12_sumOfLeast_b4, hM1, if_pos (nI_le (Nat.le_refl i) (by omega))]
  | succ k ih =>
    intro i n hi hn
    obtain ⟨n, rfl⟩ : ∃ z, n = z + 1 := ⟨n - 1, by omega⟩
    have hi16 : i < 16 := by omega
    have I := ih (i + 1) n (by omega) (by omega)
    rw [smL] at I
    rw [F_X12_sumOfLeast_b4, hM1, if_neg (show ¬ nI lv ≤ nI i from nI_ge (by omega) (by omega)), if_neg (idx_no hi16 (by decide)), nI_clamp (by omega), hM3]
    simp only [F_X12_sumOfLeast_b33, add1]
    by_cases z : R 3 i = nI o
    · rw [if_pos z] at I
      rw [if_pos z, if_neg (idx_no2 hi16 (by decide)), hr i (by omega) z, nI_add]
      exact I
    · rw [if_neg z] at I
      rw [if_neg z, Int32.add_zero]
      exact I
theorem bo_ok {M : xM} (hM : SV' R M m lv on p T V) {o : Nat} (ho : o < 6) : F_X12_boundOf (nI o) M = some (nI (boO R p V o), M) := by
  obtain ⟨⟨a1, a2, a3⟩, h43, h44, hV, hT, h1, h7, h3, h2, hlv, hon, hm, hp⟩ := hM
  unfold F_X12_boundOf boO
  rw [has12_tb (show o < 32 by omega), a3 o ho]
  cases p.2.2.2.2 o with
  | true =>
    rw [if_pos rfl, if_neg (show ¬ ((1 : Int32) = 0) by decide), if_pos rfl]
    rfl
  | false =>
    rw [if_neg (show ¬ (false = true) by decide), if_pos rfl, if_neg (idx_no ho (by decide)), nI_clamp (by omega), (h2 o ho).1, h44, pk_mul, if_neg (show ¬ (false = true) by decide)]
theorem kV (hM : SV' R S m lv on p T V) {o : Nat} (ho : o < 6) : kO R o * V ≤ 62937 := by
  have h1 := (hM.2.2.2.2.2.2.2.2.1 o ho).2
  have h2 := hM.2.2.2.1
  exact Nat.mul_le_mul h1 h2
theorem fo_loop {M : xM} (hM : SV' R M m lv on p T V) (hfu : 70000 ≤ fu) (hL : ∀ j, j < lv → ¬ R 3 j = -1 → M 22 j = nI (lowL p T j)) (x1 x2 : Int32) : ∀ k i n, i + k = on → k < n → allB (fO R p T V lv) i = true → F_X12_fits_b112 fu x1 x2 n (nI i) M = some (if allB (fO R p T V lv) on = true then 1 else 0, M) := by
  have hM0 := hM
  obtain ⟨hA, h43, h44, hV, hT, h1, h7, h3, h2, hlv, hon, hm, hp⟩ := hM
  intro k
  induction k with
  | zero =>
    intro i n hi hn hB
    obtain ⟨n, rfl⟩ : ∃ z, n = z + 1 := ⟨n - 1, by omega⟩
    obtain rfl : i = on := by omega
    rw [F_X12_fits_b112, h7, if_pos (nI_le (Nat.le_refl i) (by omega)), hB, if_pos rfl]
  | succ k ih =>
    intro i n hi hn hB
    obtain ⟨n, rfl⟩ : ∃ z, n = z + 1 := ⟨n - 1, by omega⟩
    have hi6 : i < 6 := by omega
    have e1 : F_X12_sumOfLeast fu (nI i) M = some (nI (smL R (lowL p T) i lv), M) := sm_ok h1 hlv h3 hp (fun j hj hr => hL j hj (by rw [hr]; exact nIm1 (by omega))) lv 0 fu (by omega) (by omega)
    have hs := sm_le (R := R) (T := T) hp i lv hlv
    have hkv := kV hM0 hi6
    have hbo : boO R p V i ≤ 1000000 := by
      unfold boO
      split <;> omega
    rw [F_X12_fits_b112, h7, if_neg (show ¬ nI on ≤ nI i from nI_ge (by omega) (by omega)), e1]
    simp only [Option.bind_some]
    rw [bo_ok hM0 hi6]
    simp only [Option.bind_some, add1]
    have ef : fO R p T V lv i = decide (smL R (lowL p T) i lv ≤ boO R p V i) := by
      unfold fO boO
      cases p.2.2.2.2 i with
      | true =>
        rw [Bool.true_or, if_pos rfl, decide_eq_true (by omega)]
      | false =>
        rw [Bool.false_or, if_neg (by decide)]
    by_cases z : smL R (lowL p T) i lv ≤ boO R p V i
    · rw [if_pos (nI_le z (by omega))]
      refine ih (i + 1) n (by omega) (by omega) ?_
      rw [allB, hB, ef, decide_eq_true z]
      rfl
    · rw [if_neg (nI_ge (by omega) (by omega))]
      have : fO R p T V lv i = false := by rw [ef, decide_eq_false z]
      rw [allB_no this (show i < on by omega), if_neg (by decide)]
/-- the greatest PULLS -/
theorem gr_loop {M : xM} (hM : SV' R M m lv on p T V) {l : Nat} (hl : l < 16) (hd : cd p l = false) (hT2 : T (p.1 l) < cw p l) (x2 : Int32) : ∀ q n, q < n → lowL p T l + q ≤ 1000 → F_X12_greatest_b9 fu (nI l) x2 n (nI (lowL p T l + q)) M = some (nI (lowL p T l + q - q % cw p l), M) := by
  obtain ⟨hA, h43, h44, hV, hT, h1, h7, h3, h2, hlv, hon, hm, hp⟩ := hM
  have hw := cw_in hp hl
  have hlow : lowL p T l % cw p l = lowL p T l := by
    unfold lowL
    rw [hd, if_neg (by decide), Nat.mod_mod]
  have hlt : lowL p T l < cw p l := by
    have := Nat.mod_lt (lowL p T l) (show cw p l > 0 by omega)
    omega
  intro q
  induction q with
  | zero =>
    intro n hn hq
    obtain ⟨n, rfl⟩ : ∃ z, n = z + 1 := ⟨n - 1, by omega⟩
    have ht : told p T l (lowL p T l + 0) = true := by
      rw [told_iff hp hl hd, decide_eq_true hT2, Nat.add_zero, hlow]
      simp
    rw [F_X12_greatest_b9, if_neg (nI_pos (by omega)), isTold_ok hm hp hA h43 hT hl (by omega)]
    simp only [Option.bind_some]
    rw [ht, if_pos rfl, if_neg (show ¬ ((1 : Int32) = 0) by decide), Nat.zero_mod, Nat.sub_zero]
  | succ q ih =>
    intro n hn hq
    obtain ⟨n, rfl⟩ : ∃ z, n = z + 1 := ⟨n - 1, by omega⟩
    rw [F_X12_greatest_b9, if_neg (nI_pos (by omega)), isTold_ok hm hp hA h43 hT hl (by omega)]
    simp only [Option.bind_some]
    have hz : (lowL p T l + (q + 1)) % cw p l = lowL p T l ↔ (q + 1) % cw p l = 0 := by
      generalize lowL p T l = a at *
      generalize cw p l = c at *
      rcases hw with rfl | rfl | rfl <;> omega
    by_cases ht : (q + 1) % cw p l = 0
    · rw [show told p T l (lowL p T l + (q + 1)) = true by
        rw [told_iff hp hl hd, decide_eq_true hT2, Bool.true_and]
        exact decide_eq_true (hz.mpr ht), if_pos rfl, if_neg (show ¬ ((1 : Int32) = 0) by decide), ht, Nat.sub_zero]
    · rw [show told p T l (lowL p T l + (q + 1)) = false by
        rw [told_iff hp hl hd, decide_eq_true hT2, Bool.true_and]
        exact decide_eq_false (fun y => ht (hz.mp y)), if_neg (show ¬ (false = true) by decide), if_pos rfl, m1p (by omega)]
      have e2 : (q + 1) % cw p l = q % cw p l + 1 := by
        generalize cw p l = c at *
        rcases hw with rfl | rfl | rfl <;> omega
      have I := ih n (by omega) (by omega)
      rw [show lowL p T l + (q + 1) - 1 = lowL p T l + q by omega, I, e2]
      congr 3
      omega
theorem grt_ok {M : xM} (hM : SV' R M m lv on p T V) (hfu : 70000 ≤ fu) {l : Nat} (hl : l < 16) (hf : fitL p T V l = true) {b q : Nat} (hb : b < 2 ^ 31) (hq : min b V = lowL p T l + q) : F_X12_greatest fu (nI l) (nI b) M = some (nI (lowL p T l + q - q % stpL p l), M) := by
  have hM0 := hM
  obtain ⟨hA, h43, h44, hV, hT, h1, h7, h3, h2, hlv, hon, hm, hp⟩ := hM
  unfold F_X12_greatest
  rw [h44, jminN hb (by omega), hq]
  cases hd : cd p l with
  | false =>
    have h' := hf
    unfold fitL at h'
    rw [hd] at h'
    simp only [Bool.false_eq_true, if_false, Bool.and_eq_true, decide_eq_true_eq] at h'
    have hs : stpL p l = cw p l := by
      unfold stpL
      rw [hd, if_neg (by decide)]
    rw [hs]
    exact gr_loop hM0 hl hd h'.1 (nI b) q fu (by omega) (by omega)
  | true =>
    obtain ⟨n, rfl⟩ : ∃ z, fu = z + 1 := ⟨fu - 1, by omega⟩
    have hs : stpL p l = 1 := by
      unfold stpL
      rw [hd, if_pos rfl]
    rw [hs, Nat.mod_one, Nat.sub_zero, F_X12_greatest_b9, if_neg (nI_pos (by omega)), isTold_ok hm hp hA h43 hT hl (by omega)]
    simp only [Option.bind_some]
    rw [told_dead (V := V) hd, hf, if_pos rfl, if_neg (show ¬ ((1 : Int32) = 0) by decide)]
end FIT4
