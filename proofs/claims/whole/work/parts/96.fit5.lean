/-! The class: whether a set FITS, and the PULLS by it -/
/-- what the class reads in all this -/
def CV (R M : xM) (m lv on : Nat) (p : aS) (T : Nat → Nat) : Prop := AC M p ∧ (∀ c, c < 16 → M 26 (m * 16 + c) = nI (T c) ∧ T c ≤ 999) ∧ M 1 0 = nI lv ∧ M 1 1 = nI on ∧ (∀ l, l < lv → (tb (M 1 7) l = true ↔ ¬ R 3 l = -1)) ∧ (∀ o, o < on → ∀ l, l < lv → (tb (M 11 o) l = true ↔ R 3 l = nI o)) ∧ (∀ o, o < 6 → M 12 o = nI (kO R o) ∧ kO R o ≤ 63) ∧ lv ≤ 16 ∧ on ≤ 6 ∧ m < 6 ∧ okA p
section FIT5
variable {R C : xM} {m lv on V fu : Nat} {p : aS} {T : Nat → Nat}
theorem CV.fr {M M' : xM} {ws : List (Nat × Option Nat)} (h : CV R M m lv on p T) (hf : xfr ws M M') (hs : xsep ws [(1, some 0), (1, some 1), (1, some 7), (6, some 8), (6, some 9), (11, none), (12, none), (26, none), (33, none), (34, none), (35, none)] = true) : CV R M' m lv on p T := by
  have k : ∀ a j, xin [(1, some 0), (1, some 1), (1, some 7), (6, some 8), (6, some 9), (11, none), (12, none), (26, none), (33, none), (34, none), (35, none)] a j = true → M' a j = M a j := fun a j ha => hf a j (by
    cases hw : xin ws a j with
    | false => rfl
    | true => exact (xsep_no hs hw ha).elim)
  obtain ⟨⟨a1, a2, a3⟩, h2, h3, h4, h5, h6, h7, h8⟩ := h
  refine ⟨⟨fun l hl => ?_, fun l hl => ?_, fun o ho => ?_⟩, fun c hc => ?_, (k 1 0 rfl).trans h3, (k 1 1 rfl).trans h4, fun l hl => ?_, fun o ho l hl => ?_, fun o ho => ?_, h8⟩
  · rw [k 33 l rfl, k 34 l rfl, k 35 l rfl]
    exact a1 l hl
  · rw [k 6 8 rfl]
    exact a2 l hl
  · rw [k 6 9 rfl]
    exact a3 o ho
  · rw [k 26 _ rfl]
    exact h2 c hc
  · rw [k 1 7 rfl]
    exact h5 l hl
  · rw [k 11 o rfl]
    exact h6 o ho l hl
  · rw [k 12 o rfl]
    exact h7 o ho
theorem jfm1 : ∀ a, a < 2000 → jfm (nI a) (nI 1) = nI (a % 1) := by decide +kernel
theorem jfm10 : ∀ a, a < 2000 → jfm (nI a) (nI 10) = nI (a % 10) := by decide +kernel
theorem jfm100 : ∀ a, a < 2000 → jfm (nI a) (nI 100) = nI (a % 100) := by decide +kernel
theorem jfm1000 : ∀ a, a < 2000 → jfm (nI a) (nI 1000) = nI (a % 1000) := by decide +kernel
theorem jfs10 : ∀ a, a < 1999 → jfm (nI a - nI 999) (nI 10) = nI ((a + 1) % 10) := by decide +kernel
theorem jfs100 : ∀ a, a < 1999 → jfm (nI a - nI 999) (nI 100) = nI ((a + 1) % 100) := by decide +kernel
theorem jfs1000 : ∀ a, a < 1999 → jfm (nI a - nI 999) (nI 1000) = nI ((a + 1) % 1000) := by decide +kernel
theorem mod_ok {a w : Nat} (ha : a < 2000) (hw : w = 1 ∨ w = 10 ∨ w = 100 ∨ w = 1000) {M : xM} : P_X1_modulo (nI a) (nI w) M = nI (a % w) := by
  unfold P_X1_modulo
  rw [if_neg (show ¬ nI w ≤ 0 from nI_nle (by omega) (by omega))]
  rcases hw with rfl | rfl | rfl | rfl
  · exact jfm1 a ha
  · exact jfm10 a ha
  · exact jfm100 a ha
  · exact jfm1000 a ha
theorem mod_sub {a s w : Nat} (ha : a ≤ 999) (hs : s ≤ 999) (hw : w = 10 ∨ w = 100 ∨ w = 1000) {M : xM} : P_X1_modulo (nI a - nI s) (nI w) M = nI ((a + 1000 - s) % w) := by
  have e : nI a - nI s = nI (a + 999 - s) - nI 999 := by
    apply Int32.toInt_inj.mp
    rw [pk_sub_toInt (by omega) (by omega), pk_sub_toInt (by omega) (by omega)]
    omega
  have e2 : a + 1000 - s = a + 999 - s + 1 := by omega
  unfold P_X1_modulo
  rw [if_neg (show ¬ nI w ≤ 0 from nI_nle (by omega) (by omega)), e, e2]
  rcases hw with rfl | rfl | rfl
  · exact jfs10 _ (by omega)
  · exact jfs100 _ (by omega)
  · exact jfs1000 _ (by omega)
theorem lev_ok {M : xM} (h : CV R M m lv on p T) {l : Nat} (hl : l < 16) (hV : V ≤ 999) : F_X2_layLever (nI m) (nI l) (nI V) M = some (if fitL p T V l = true then 1 else 0, xset (xset M 37 l (nI (lowL p T l))) 36 l (nI (stpL p l))) := by
  obtain ⟨⟨a1, a2, a3⟩, h2, h3, h4, h5, h6, h7, h8, h9, hm, hp⟩ := h
  have hc := hp.1 l hl
  have hw := cw_in hp hl
  have hs := cs_le hp hl
  obtain ⟨t1, t2⟩ := h2 _ hc
  have e33 : M 33 l = nI (p.1 l) := (a1 l hl).1
  have e34 : M 34 (p.1 l) = nI (cs p l) := (a1 _ hc).2.1
  have e35 : M 35 (p.1 l) = nI (cw p l) := (a1 _ hc).2.2
  have e68 : tb (M 6 8) (p.1 l) = cd p l := a2 _ hc
  unfold F_X2_layLever
  rw [at_ok hl (by decide), e33, has_tb (show p.1 l ≤ 30 by omega), e68, P_X5_shownAt, P_X5_counter, cnt1, at_ok (show m * 16 + p.1 l < 96 by omega) (by decide), t1, at_ok hc (by decide), at_ok hc (by decide), e34, e35]
  cases hd : cd p l with
  | false =>
    have hlo : lowL p T l = (T (p.1 l) + 1000 - cs p l) % cw p l := by
      unfold lowL
      rw [hd, if_neg (by decide)]
    have hst : stpL p l = cw p l := by
      unfold stpL
      rw [hd, if_neg (by decide)]
    rw [if_neg (show ¬ (false = true) by decide), if_pos rfl, mod_sub t2 hs hw, ← hlo, put_ok hl (by decide)]
    simp only [Option.bind_some]
    rw [put_ok hl (by decide)]
    simp only [Option.bind_some]
    have hf : fitL p T V l = (decide (T (p.1 l) < cw p l) && decide (lowL p T l ≤ V)) := by
      unfold fitL
      rw [hd, if_neg (by decide)]
    have hlow := low_le (T := T) hp hl
    rw [hf, hst]
    by_cases z1 : T (p.1 l) < cw p l
    · rw [if_neg (nI_ge z1 (by omega)), decide_eq_true z1, Bool.true_and]
      by_cases z2 : lowL p T l ≤ V
      · rw [if_neg (nI_nlt z2 (by omega)), decide_eq_true z2, if_pos rfl]
      · rw [if_pos (nI_lt (by omega) (by omega)), decide_eq_false z2, if_neg (by decide)]
    · rw [if_pos (nI_le (by omega) (by omega)), decide_eq_false z1, Bool.false_and, if_neg (by decide)]
  | true =>
    have hlo : lowL p T l = 0 := by
      unfold lowL
      rw [hd, if_pos rfl]
    have hst : stpL p l = 1 := by
      unfold stpL
      rw [hd, if_pos rfl]
    rw [if_pos (show true = true from rfl), if_neg (show ¬ ((1 : Int32) = 0) by decide), put_ok hl (by decide)]
    simp only [Option.bind_some]
    rw [put_ok hl (by decide)]
    simp only [Option.bind_some]
    have hf : fitL p T V l = decide (cs p l % cw p l = T (p.1 l)) := by
      unfold fitL
      rw [hd, if_pos rfl]
    rw [mod_ok (by omega) (by omega), hf, hst, hlo]
    have hlt := Nat.mod_le (cs p l) (cw p l)
    by_cases z : cs p l % cw p l = T (p.1 l)
    · rw [if_pos (by rw [z]), decide_eq_true z, if_pos rfl]
      rfl
    · rw [if_neg (fun y => z ((nI_eq (by omega) (by omega)).mp y)), decide_eq_false z, if_neg (by decide)]
      rfl
theorem ll_loop {S : xM} (h : CV R S m lv on p T) (hV : V ≤ 999) (hfu : 70000 ≤ fu) (x1 x2 : Int32) (hx1 : x1 = nI m) : ∀ k i n M, i + k = lv → k < n → (∀ a j, a ≠ 36 → a ≠ 37 → M a j = S a j) → (∀ j, j < i → ¬ R 3 j = -1 → M 37 j = nI (lowL p T j) ∧ M 36 j = nI (stpL p j)) → allB (fL R p T V) i = true →
    ∃ M', (∀ a j, a ≠ 36 → a ≠ 37 → M' a j = S a j) ∧ (if allB (fL R p T V) lv = true then (F_X2_lay_b38 fu x1 x2 n (nI V) (nI i) M = F_X2_lay_b84 fu x1 x2 fu (nI V) 0 M' ∧ ∀ j, j < lv → ¬ R 3 j = -1 → M' 37 j = nI (lowL p T j) ∧ M' 36 j = nI (stpL p j)) else F_X2_lay_b38 fu x1 x2 n (nI V) (nI i) M = some (0, M')) := by
  intro k
  induction k with
  | zero =>
    intro i n M hi hn hM hL hB
    obtain ⟨n, rfl⟩ : ∃ z, n = z + 1 := ⟨n - 1, by omega⟩
    obtain rfl : i = lv := by omega
    obtain ⟨hA, hT, h1, h4, h5, h6, h7, hlv, hon, hm, hp⟩ := h
    refine ⟨M, hM, ?_⟩
    rw [hB, if_pos rfl, F_X2_lay_b38, hM 1 0 (by decide) (by decide), h1, if_pos (nI_le (Nat.le_refl i) (by omega))]
    exact ⟨rfl, hL⟩
  | succ k ih =>
    intro i n M hi hn hM hL hB
    obtain ⟨n, rfl⟩ : ∃ z, n = z + 1 := ⟨n - 1, by omega⟩
    have h0 := h
    obtain ⟨hA, hT, h1, h4, h5, h6, h7, hlv, hon, hm, hp⟩ := h
    have hi16 : i < 16 := by omega
    have hi5 := h5 i (by omega)
    have hCM : CV R M m lv on p T := h0.fr (ws := [(36, none), (37, none)]) (fun a j hx => hM a j (by
      rintro rfl
      exact absurd hx (by simp [xin])) (by
      rintro rfl
      exact absurd hx (by simp [xin]))) (by decide)
    rw [F_X2_lay_b38, hM 1 0 (by decide) (by decide), h1, if_neg (show ¬ nI lv ≤ nI i from nI_ge (by omega) (by omega)), P_X0_isRuled, hM 1 7 (by decide) (by decide), has_tb (show i ≤ 30 by omega)]
    simp only [F_X2_lay_b75, add1]
    by_cases hr : R 3 i = -1
    · have ht : tb (S 1 7) i = false := by
        cases hb : tb (S 1 7) i with
        | false => rfl
        | true => exact absurd hr (hi5.mp hb)
      rw [ht, if_neg (show ¬ (false = true) by decide), if_pos rfl]
      have hB1 : allB (fL R p T V) (i + 1) = true := by
        rw [allB, hB, Bool.true_and]
        unfold fL
        rw [decide_eq_true hr, Bool.true_or]
      refine ih (i + 1) n M (by omega) (by omega) hM (fun j hj hrj => ?_) hB1
      by_cases e : j = i
      · subst e
        exact absurd hr hrj
      · exact hL j (by omega) hrj
    · rw [hi5.mpr hr, if_pos rfl, if_neg (show ¬ ((1 : Int32) = 0) by decide), hx1, lev_ok hCM hi16 hV]
      simp only [Option.bind_some]
      have hM2 : ∀ a j, a ≠ 36 → a ≠ 37 → (xset (xset M 37 i (nI (lowL p T i))) 36 i (nI (stpL p i))) a j = S a j := fun a j q1 q2 => by
        rw [← hM a j q1 q2]
        unfold xset
        rw [if_neg (fun z => q1 z.1), if_neg (fun z => q2 z.1)]
      cases hf : fitL p T V i with
      | true =>
        rw [if_pos rfl, if_neg (show ¬ ((1 : Int32) = 0) by decide)]
        have hB1 : allB (fL R p T V) (i + 1) = true := by
          rw [allB, hB, Bool.true_and]
          unfold fL
          rw [hf, Bool.or_true]
        rw [← hx1]
        refine ih (i + 1) n _ (by omega) (by omega) hM2 (fun j hj hrj => ?_) hB1
        by_cases e : j = i
        · subst e
          exact ⟨by simp [xset], by simp [xset]⟩
        · obtain ⟨q1, q2⟩ := hL j (by omega) hrj
          exact ⟨by simp [xset, e, q1], by simp [xset, e, q2]⟩
      | false =>
        have hB1 : fL R p T V i = false := by
          unfold fL
          rw [decide_eq_false hr, hf]
          rfl
        refine ⟨_, hM2, ?_⟩
        rw [allB_no hB1 (show i < lv by omega), if_neg (show ¬ (false = true) by decide), if_neg (show ¬ (false = true) by decide), if_pos rfl]
theorem sub3 (A B c : Nat) : nI A - nI B - nI c = nI A - nI (B + c) := by
  rw [← nI_add]
  apply Int32.toBitVec_inj.mp
  simp only [Int32.toBitVec_sub, Int32.toBitVec_add]
  bv_omega
theorem nn_sub {A B : Nat} (hA : A < 2 ^ 30) (hB : B < 2 ^ 30) : (0 ≤ nI A - nI B) ↔ B ≤ A := by
  rw [Int32.le_iff_toInt_le, pk_sub_toInt hA hB]
  show (0 : Int) ≤ _ ↔ _
  omega
/-- what is left to an OFFICE -/
theorem lf_loop {S : xM} (h : CV R S m lv on p T) (hL : ∀ j, j < lv → ¬ R 3 j = -1 → S 37 j = nI (lowL p T j)) {o : Nat} (ho : o < on) (x2 : Int32) (A : Nat) : ∀ k i n, i + k = lv → k < n → F_X2_layOffice_b14 fu (nI o) x2 n (nI A - nI (smL R (lowL p T) o i)) (nI i) S = (if p.2.2.2.2 o = true then F_X2_layOffice_b78 fu (nI o) x2 (nI A - nI (smL R (lowL p T) o lv)) 1 S else if 0 ≤ nI A - nI (smL R (lowL p T) o lv) then F_X2_layOffice_b78 fu (nI o) x2 (nI A - nI (smL R (lowL p T) o lv)) 0 S else some (0, S)) := by
  obtain ⟨⟨a1, a2, a3⟩, hT, h1, h4, h5, h6, h7, hlv, hon, hm, hp⟩ := h
  intro k
  induction k with
  | zero =>
    intro i n hi hn
    obtain ⟨n, rfl⟩ : ∃ z, n = z + 1 := ⟨n - 1, by omega⟩
    obtain rfl : i = lv := by omega
    rw [F_X2_layOffice_b14, h1, if_pos (nI_le (Nat.le_refl i) (by omega)), has_tb (show o ≤ 30 by omega), a3 o (by omega)]
    cases p.2.2.2.2 o with
    | true => rw [if_pos rfl, if_neg (show ¬ ((1 : Int32) = 0) by decide), if_pos rfl]
    | false => rw [if_neg (show ¬ (false = true) by decide), if_pos rfl, if_neg (show ¬ (false = true) by decide)]
  | succ k ih =>
    intro i n hi hn
    obtain ⟨n, rfl⟩ : ∃ z, n = z + 1 := ⟨n - 1, by omega⟩
    have hi16 : i < 16 := by omega
    have I := ih (i + 1) n (by omega) (by omega)
    rw [smL] at I
    have hb := h6 o ho i (by omega)
    rw [F_X2_layOffice_b14, h1, if_neg (show ¬ nI lv ≤ nI i from nI_ge (by omega) (by omega)), P_X0_leversOf, at_ok (show o < 6 by omega) (by decide), has_tb (show i ≤ 30 by omega), P_X2_low, at_ok hi16 (by decide)]
    simp only [F_X2_layOffice_b51, add1]
    by_cases z : R 3 i = nI o
    · rw [if_pos z] at I
      rw [hb.mpr z, if_pos rfl, if_neg (show ¬ ((1 : Int32) = 0) by decide), hL i (by omega) (by rw [z]; exact nIm1 (by omega)), sub3]
      exact I
    · rw [if_neg z] at I
      have ht : tb (S 11 o) i = false := by
        cases hbb : tb (S 11 o) i with
        | false => rfl
        | true => exact absurd (hb.mp hbb) z
      rw [ht, if_neg (show ¬ (false = true) by decide), if_pos rfl]
      exact I
/-- the greatest PULLS of an OFFICE's LEVERS -/
theorem hi_loop {S : xM} (h : CV R S m lv on p T) (hV : V ≤ 999) (hL : ∀ j, j < lv → ¬ R 3 j = -1 → S 37 j = nI (lowL p T j) ∧ S 36 j = nI (stpL p j)) (hF : allB (fL R p T V) lv = true) {o : Nat} (ho : o < on) (hO : p.2.2.2.2 o = true ∨ smL R (lowL p T) o lv ≤ kO R o * V) (x3 x4 : Int32) (hx3 : p.2.2.2.2 o = false → x3 = nI (kO R o * V - smL R (lowL p T) o lv) ∧ x4 = 0) (hx4 : p.2.2.2.2 o = true → x4 = 1) : ∀ k i n M, i + k = lv → k < n → (∀ a j, a ≠ 38 → M a j = S a j) → (∀ j, j < i → R 3 j = nI o → M 38 j = nI (hiL R p T V lv o j)) → (∀ j, ¬ R 3 j = nI o → M 38 j = S 38 j) →
    ∃ M', F_X2_layOffice_b81 fu (nI o) (nI V) n x3 x4 (nI i) M = some (1, M') ∧ (∀ a j, a ≠ 38 → M' a j = S a j) ∧ (∀ j, j < lv → R 3 j = nI o → M' 38 j = nI (hiL R p T V lv o j)) ∧ ∀ j, ¬ R 3 j = nI o → M' 38 j = S 38 j := by
  obtain ⟨⟨a1, a2, a3⟩, hT, h1, h4, h5, h6, h7, hlv, hon, hm, hp⟩ := h
  have hkv : kO R o * V ≤ 62937 := Nat.mul_le_mul (h7 o (by omega)).2 hV
  intro k
  induction k with
  | zero =>
    intro i n M hi hn hM hH hN
    obtain ⟨n, rfl⟩ : ∃ z, n = z + 1 := ⟨n - 1, by omega⟩
    obtain rfl : i = lv := by omega
    rw [F_X2_layOffice_b81, hM 1 0 (by decide), h1, if_pos (nI_le (Nat.le_refl i) (by omega))]
    exact ⟨M, rfl, hM, hH, hN⟩
  | succ k ih =>
    intro i n M hi hn hM hH hN
    obtain ⟨n, rfl⟩ : ∃ z, n = z + 1 := ⟨n - 1, by omega⟩
    have hi16 : i < 16 := by omega
    have hb := h6 o ho i (by omega)
    rw [F_X2_layOffice_b81, hM 1 0 (by decide), h1, if_neg (show ¬ nI lv ≤ nI i from nI_ge (by omega) (by omega)), P_X0_leversOf, at_ok (show o < 6 by omega) (by decide), hM 11 o (by decide), has_tb (show i ≤ 30 by omega), P_X2_low, at_ok hi16 (by decide), hM 37 i (by decide)]
    simp only [F_X2_layOffice_b135, F_X2_layOffice_b170, add1]
    by_cases z : R 3 i = nI o
    · have hr : ¬ R 3 i = -1 := by
        rw [z]
        exact nIm1 (by omega)
      obtain ⟨l1, l2⟩ := hL i (by omega) hr
      have hfl := allB_at hF i (by omega)
      unfold fL at hfl
      rw [decide_eq_false hr, Bool.false_or] at hfl
      have hlV := (fit_told hp hi16 hfl).1
      have hmo : moL R p T V lv o i ≤ V - lowL p T i := by
        unfold moL
        split
        · exact Nat.le_refl _
        · exact Nat.min_le_left _ _
      have hst : stpL p i = 1 ∨ stpL p i = 10 ∨ stpL p i = 100 ∨ stpL p i = 1000 := by
        have := cw_in hp hi16
        unfold stpL
        split <;> omega
      have hml := Nat.mod_le (moL R p T V lv o i) (stpL p i)
      have fin : ∃ M', ((F_X1_put 38 16 (nI i) ((P_X1_at 37 16 (nI i) M + nI (moL R p T V lv o i)) - P_X1_modulo (nI (moL R p T V lv o i)) (P_X1_at 36 16 (nI i) M) M) M).bind fun q1 => F_X2_layOffice_b81 fu (nI o) (nI V) n x3 x4 (nI (i + 1)) q1) = some (1, M') ∧ (∀ a j, a ≠ 38 → M' a j = S a j) ∧ (∀ j, j < lv → R 3 j = nI o → M' 38 j = nI (hiL R p T V lv o j)) ∧ ∀ j, ¬ R 3 j = nI o → M' 38 j = S 38 j := by
        rw [at_ok hi16 (by decide), at_ok hi16 (by decide), hM 37 i (by decide), hM 36 i (by decide), l1, l2, mod_ok (by omega) hst, nI_add, pk_sub (by omega), put_ok hi16 (by decide)]
        simp only [Option.bind_some]
        refine ih (i + 1) n _ (by omega) (by omega) (fun a j ha => ?_) (fun j hj hrj => ?_) (fun j hrj => ?_)
        · rw [← hM a j ha]
          unfold xset
          rw [if_neg (fun y => ha y.1)]
        · by_cases e : j = i
          · subst e
            simp [xset, hiL]
          · rw [← hH j (by omega) hrj]
            simp [xset, e]
        · have e : ¬ j = i := fun e => hrj (by rw [e]; exact z)
          rw [← hN j hrj]
          simp [xset, e]
      rw [hb.mpr z, if_pos rfl, if_neg (show ¬ ((1 : Int32) = 0) by decide), l1]
      cases hof : p.2.2.2.2 o with
      | true =>
        have em : moL R p T V lv o i = V - lowL p T i := by
          unfold moL
          rw [hof, if_pos rfl]
        have e4 := hx4 hof
        rw [if_neg (show ¬ x4 = 0 by rw [e4]; decide), pk_sub hlV, ← em]
        exact fin
      | false =>
        obtain ⟨g1, g2⟩ := hx3 hof
        have em : moL R p T V lv o i = min (V - lowL p T i) (kO R o * V - smL R (lowL p T) o lv) := by
          unfold moL
          rw [hof, if_neg (by decide)]
        rw [if_pos g2, pk_sub hlV]
        rw [show jmin (nI (V - lowL p T i)) x3 = nI (moL R p T V lv o i) by rw [g1, jminN (by omega) (by omega), em]]
        exact fin
    · have ht : tb (S 11 o) i = false := by
        cases hbb : tb (S 11 o) i with
        | false => rfl
        | true => exact absurd (hb.mp hbb) z
      rw [ht, if_neg (show ¬ (false = true) by decide), if_pos rfl]
      refine ih (i + 1) n M (by omega) (by omega) hM (fun j hj hrj => ?_) hN
      by_cases e : j = i
      · subst e
        exact absurd hrj z
      · exact hH j (by omega) hrj
end FIT5
