/-! cover -/
section COVER
variable {R C : xM} {m lv on mn sn tn fu : Nat}
theorem TW.fr45 {M M' : xM} (hW : TW fu lv on mn sn tn M R) (h : ∀ k j, k ≠ 45 → M' k j = M k j) : TW fu lv on mn sn tn M' R := by
  obtain ⟨hF, hSV, hX, hZ, c82, r49, htn⟩ := hW
  have hx : xfr [(45, none)] M M' := fun k j hk => h k j (by
    rintro rfl
    exact absurd hk (by simp [xin]))
  refine ⟨hF.fr (wr := []) hx xfr.rf (by decide) (by decide), ⟨hSV.1, (h 1 2 (by decide)).trans hSV.2.1, hSV.2.2.1, rel_fr (wr := []) RP_m hSV.2.2.2 hx xfr.rf (by decide) (by decide)⟩, rel_fr (wr := []) RX_m hX hx xfr.rf (by decide) (by decide), rel_fr (wr := []) RZ_m hZ hx xfr.rf (by decide) (by decide), (h 8 2 (by decide)).trans c82, r49, htn⟩
/-- what TESTS see together -/
def snF (f : Nat → Int32) (s : Nat) : Nat → Int32
  | 0 => 0
  | t + 1 => if s.testBit t = true then snF f s t ||| f t else snF f s t
theorem sy_ok {M : xM} (hfu : 70000 ≤ fu) (htn : tn ≤ 8) (c82 : M 8 2 = nI tn) (f : Nat → Int32) (hf : ∀ t, t < tn → M 45 t = f t) (s : Nat) : F_X10_seenByAnyOf fu (nI s) M = some (snF f s tn, M) := by
  have loop : ∀ k t n, t + k = tn → k < n → F_X10_seenByAnyOf_b4 fu (nI s) n (snF f s t) (nI t) M = some (snF f s tn, M) := by
    intro k
    induction k with
    | zero =>
      intro t n hk hn
      obtain ⟨n, rfl⟩ : ∃ z, n = z + 1 := ⟨n - 1, by omega⟩
      obtain rfl : t = tn := by omega
      rw [F_X10_seenByAnyOf_b4, c82, if_pos (nI_le (Nat.le_refl _) (by omega))]
    | succ k ih =>
      intro t n hk hn
      obtain ⟨n, rfl⟩ : ∃ z, n = z + 1 := ⟨n - 1, by omega⟩
      have I := ih (t + 1) n (by omega) (by omega)
      rw [snF] at I
      rw [F_X10_seenByAnyOf_b4, c82, if_neg (show ¬ nI tn ≤ nI t from nI_ge (by omega) (by omega)), has_tb (show t ≤ 30 by omega), tb_nI (by omega), at_ok (show t < 8 by omega) (by decide), hf t (by omega)]
      simp only [F_X10_seenByAnyOf_b31, add1]
      cases hb : s.testBit t with
      | false =>
        rw [hb, if_neg (by decide)] at I
        rw [if_neg (show ¬ (false = true) by decide), if_pos rfl]
        exact I
      | true =>
        rw [hb, if_pos rfl] at I
        rw [if_pos rfl, if_neg (show ¬ ((1 : Int32) = 0) by decide)]
        exact I
  exact loop tn 0 fu (by omega) (by omega)
theorem sb_ok {S : xM} (hfu : 70000 ≤ fu) (htn : tn ≤ 8) (r49 : S 0 49 = nI tn) (f : Nat → Int32) (hf : ∀ t, t < tn → S 29 t = f t) (s : Nat) : F_X12_seenBy fu (nI s) S = some (snF f s tn, S) := by
  have loop : ∀ k t n, t + k = tn → k < n → F_X12_seenBy_b4 fu (nI s) n (snF f s t) (nI t) S = some (snF f s tn, S) := by
    intro k
    induction k with
    | zero =>
      intro t n hk hn
      obtain ⟨n, rfl⟩ : ∃ z, n = z + 1 := ⟨n - 1, by omega⟩
      obtain rfl : t = tn := by omega
      rw [F_X12_seenBy_b4, r49, if_pos (nI_le (Nat.le_refl _) (by omega))]
    | succ k ih =>
      intro t n hk hn
      obtain ⟨n, rfl⟩ : ∃ z, n = z + 1 := ⟨n - 1, by omega⟩
      have I := ih (t + 1) n (by omega) (by omega)
      rw [snF] at I
      rw [F_X12_seenBy_b4, r49, if_neg (show ¬ nI tn ≤ nI t from nI_ge (by omega) (by omega)), has12_tb (show t < 32 by omega), tb_nI (by omega), if_neg (idx_no (show t < 8 by omega) (by decide)), nI_clamp (by omega), hf t (by omega)]
      simp only [F_X12_seenBy_b31, add1, or0]
      cases hb : s.testBit t with
      | false =>
        rw [hb, if_neg (by decide)] at I
        rw [if_neg (show ¬ (false = true) by decide), if_pos rfl]
        exact I
      | true =>
        rw [hb, if_pos rfl] at I
        rw [if_pos rfl, if_neg (show ¬ ((1 : Int32) = 0) by decide)]
        exact I
  exact loop tn 0 fu (by omega) (by omega)
theorem tbF : ∀ n, n ≤ 8 → ∀ t, t < n → (2 ^ n - 1).testBit t = true := by decide
theorem snF_full (f : Nat → Int32) (hn : tn ≤ 8) : ∀ t, t ≤ tn → snF f (2 ^ tn - 1) t = snF f (2 ^ 8 - 1) t := by
  intro t
  induction t with
  | zero => exact fun _ => rfl
  | succ t ih =>
    intro ht
    rw [snF, snF, ih (by omega), tbF tn hn t (by omega), tbF 8 (by decide) t (by omega)]
def cvB (f : Nat → Int32) (tn s : Nat) : Bool := decide (snF f s tn = snF f (2 ^ tn - 1) tn)
/-- the class: the fewest TESTS that see all -/
theorem cvC_loop {M : xM} (hfu : 70000 ≤ fu) (htn : tn ≤ 8) (c82 : M 8 2 = nI tn) (f : Nat → Int32) (hf : ∀ t, t < tn → M 45 t = f t) (x1 : Int32) : ∀ (k i n : Nat) (x : Int32), i + k = 2 ^ tn → k < n → (bst (cvB f tn) i = -1 ∧ x = nI (2 ^ tn - 1) ∨ ¬ (bst (cvB f tn) i = -1) ∧ x = bst (cvB f tn) i) → F_X10_fewestSeeingAll_b54 fu x1 n (snF f (2 ^ tn - 1) tn) x (nI i) M = some (bst (cvB f tn) (2 ^ tn), M) := by
  have hb : 2 ^ tn ≤ 256 := Nat.pow_le_pow_right (n := 2) (by decide) htn
  have hp := p2p tn
  have hF : cvB f tn (2 ^ tn - 1) = true := decide_eq_true rfl
  intro k
  induction k with
  | zero =>
    intro i n x hi hn hx
    obtain ⟨n, rfl⟩ : ∃ z, n = z + 1 := ⟨n - 1, by omega⟩
    obtain rfl : i = 2 ^ tn := by omega
    rw [F_X10_fewestSeeingAll_b54, c82, all_eq (by omega), if_pos ((dec_ge (by omega) (by omega)).mpr (by omega))]
    rcases hx with ⟨e1, e2⟩ | ⟨e1, e2⟩
    · rcases bst_in (cvB f tn) (2 ^ tn) with ⟨z1, z2⟩ | ⟨j, z1, z2, z3⟩
      · have := z2 (2 ^ tn - 1) (by omega)
        rw [hF] at this
        exact absurd this (by decide)
      · exact absurd (z2.symm.trans e1) (nIm1 (by omega))
    · rw [e2]
  | succ k ih =>
    intro i n x hi hn hx
    obtain ⟨n, rfl⟩ : ∃ z, n = z + 1 := ⟨n - 1, by omega⟩
    rw [F_X10_fewestSeeingAll_b54, c82, all_eq (by omega), if_neg (fun z => by have := (dec_ge (n := 2 ^ tn) (j := i) (by omega) (by omega)).mp z; omega), sy_ok hfu htn c82 f hf, bef_eq (N := fun _ _ => 0)]
    simp only [Option.bind_some, F_X10_fewestSeeingAll_b88, add1]
    have I := ih (i + 1) n
    rw [bst] at I
    have hd : (snF f i tn = snF f (2 ^ tn - 1) tn) ↔ cvB f tn i = true := by
      unfold cvB
      rw [decide_eq_true_eq]
    rcases hx with ⟨e1, e2⟩ | ⟨e1, e2⟩
    · rw [e1] at I
      subst e2
      by_cases hi2 : i < 2 ^ tn - 1
      · rw [if_neg (fullB tn (by omega) i hi2)]
        cases hpi : cvB f tn i with
        | false =>
          rw [if_neg (fun z => by rw [hd.mp z] at hpi; exact absurd hpi (by decide))]
          rw [hpi, Bool.false_and, if_neg (show ¬ (false = true) by decide)] at I
          exact I _ (by omega) (by omega) (Or.inl ⟨rfl, rfl⟩)
        | true =>
          rw [if_pos (hd.mpr hpi)]
          rw [hpi, if_pos (by simp)] at I
          exact I _ (by omega) (by omega) (Or.inr ⟨nIm1 (by omega), rfl⟩)
      · obtain rfl : i = 2 ^ tn - 1 := by omega
        rw [if_pos (fullS tn (by omega))]
        rw [hF, if_pos (by simp)] at I
        exact I _ (by omega) (by omega) (Or.inr ⟨nIm1 (by omega), rfl⟩)
    · subst e2
      by_cases hbf : P_X12_isBefore (nI i) (bst (cvB f tn) i) (fun _ _ => 0) = 0
      · rw [if_pos hbf]
        rw [if_neg (by simp [e1, hbf])] at I
        exact I _ (by omega) (by omega) (Or.inr ⟨e1, rfl⟩)
      · rw [if_neg hbf]
        cases hpi : cvB f tn i with
        | false =>
          rw [if_neg (fun z => by rw [hd.mp z] at hpi; exact absurd hpi (by decide))]
          rw [hpi, Bool.false_and, if_neg (show ¬ (false = true) by decide)] at I
          exact I _ (by omega) (by omega) (Or.inr ⟨e1, rfl⟩)
        | true =>
          rw [if_pos (hd.mpr hpi)]
          rw [hpi, if_pos (by simp [hbf])] at I
          exact I _ (by omega) (by omega) (Or.inr ⟨nIm1 (by omega), rfl⟩)
theorem cvR_loop {S : xM} (hfu : 70000 ≤ fu) (htn : tn ≤ 8) (r49 : S 0 49 = nI tn) (f : Nat → Int32) (hf : ∀ t, t < tn → S 29 t = f t) (x1 : Int32) : ∀ (k i n : Nat), i + k = 2 ^ tn → k < n → F_X12_cover_b61 fu x1 n (snF f (2 ^ tn - 1) tn) (bst (cvB f tn) i) (nI i) S = some (bst (cvB f tn) (2 ^ tn), S) := by
  have hb : 2 ^ tn ≤ 256 := Nat.pow_le_pow_right (n := 2) (by decide) htn
  intro k
  induction k with
  | zero =>
    intro i n hi hn
    obtain ⟨n, rfl⟩ : ∃ z, n = z + 1 := ⟨n - 1, by omega⟩
    obtain rfl : i = 2 ^ tn := by omega
    rw [F_X12_cover_b61, r49, p2 (by omega), if_pos (nI_le (Nat.le_refl _) (by omega))]
  | succ k ih =>
    intro i n hi hn
    obtain ⟨n, rfl⟩ : ∃ z, n = z + 1 := ⟨n - 1, by omega⟩
    have I := ih (i + 1) n (by omega) (by omega)
    rw [bst] at I
    rw [F_X12_cover_b61, r49, p2 (by omega), if_neg (show ¬ nI (2 ^ tn) ≤ nI i from nI_ge (by omega) (by omega)), sb_ok hfu htn r49 f hf]
    simp only [Option.bind_some, F_X12_cover_b96, F_X12_cover_b99, add1]
    rw [show P_X12_isBefore (nI i) (bst (cvB f tn) i) S = P_X12_isBefore (nI i) (bst (cvB f tn) i) (fun _ _ => 0) from rfl]
    have hd : (snF f i tn = snF f (2 ^ tn - 1) tn) ↔ cvB f tn i = true := by
      unfold cvB
      rw [decide_eq_true_eq]
    cases hpi : cvB f tn i with
    | false =>
      rw [hpi, Bool.false_and, if_neg (by decide)] at I
      rw [if_neg (fun z => by rw [hd.mp z] at hpi; exact absurd hpi (by decide))]
      exact I
    | true =>
      rw [hpi, Bool.true_and] at I
      rw [if_pos (hd.mpr hpi)]
      by_cases z : bst (cvB f tn) i = -1
      · rw [if_pos z]
        rw [decide_eq_true z, Bool.true_or, if_pos rfl] at I
        exact I
      · rw [if_neg z]
        by_cases z2 : P_X12_isBefore (nI i) (bst (cvB f tn) i) (fun _ _ => 0) = 0
        · rw [if_pos z2]
          rw [decide_eq_false z, decide_eq_false (fun y => y z2), if_neg (by decide)] at I
          exact I
        · rw [if_neg z2]
          rw [decide_eq_true z2, Bool.or_true, if_pos rfl] at I
          exact I
theorem op_cover (hfu : 70000 ≤ fu) (x1 : Int32) (hW : TW fu lv on mn sn tn C R) : ∃ v C' R', F_X11_cover fu x1 C = some (v, C') ∧ F_X12_cover fu x1 R = some (v, R') := by
  unfold F_X11_cover F_X12_cover
  rw [hW.1.meq]
  by_cases h2 : P_X5_isMachine x1 C = 0
  · rw [if_pos h2, if_pos h2]
    exact ⟨-1, _, _, rfl, rfl⟩
  obtain ⟨m, hm, rfl⟩ := Classical.not_not.mp fun z => h2 (hW.1.mc.mpr z)
  rw [if_neg h2, if_neg h2]
  have htn := hW.2.2.2.2.2.2
  have r49 := hW.2.2.2.2.2.1
  have hp := p2p tn
  have loop : ∀ k t n1 n2 (acc : Int32) (M S : xM), t + k = tn → k < n1 → k < n2 → TW fu lv on mn sn tn M R → xfr wrT R S → (∀ t', t' < t → M 45 t' = S 29 t') → acc = snF (fun t => M 45 t) (2 ^ 8 - 1) t → ∃ v M' S', F_X10_fewestSeeingAll_b4 fu (nI m) n1 acc (nI t) M = some (v, M') ∧ F_X12_cover_b17 fu (nI m) n2 (nI t) S = some (v, S') := by
    intro k
    induction k with
    | zero =>
      intro t n1 n2 acc M S hk h1 h2 hW hS hE hacc
      obtain ⟨n1, rfl⟩ : ∃ z, n1 = z + 1 := ⟨n1 - 1, by omega⟩
      obtain ⟨n2, rfl⟩ : ∃ z, n2 = z + 1 := ⟨n2 - 1, by omega⟩
      obtain rfl : t = tn := by omega
      have c82 := hW.2.2.2.2.1
      have s49 : S 0 49 = nI t := (hS 0 49 rfl).trans r49
      have hb : 2 ^ t ≤ 256 := Nat.pow_le_pow_right (n := 2) (by decide) htn
      rw [F_X10_fewestSeeingAll_b4, F_X12_cover_b17, c82, s49, if_pos (nI_le (Nat.le_refl _) (by omega)), if_pos (nI_le (Nat.le_refl _) (by omega)), p2 (by omega), nI_m1 hp, sb_ok hfu htn s49 (fun t => M 45 t) (fun t ht => (hE t ht).symm), all_eq (by omega), nI_m1 hp, hacc, ← snF_full (fun t => M 45 t) htn t (Nat.le_refl _)]
      simp only [Option.bind_some]
      rw [show F_X10_fewestSeeingAll_b54 fu (nI m) fu (snF (fun t => M 45 t) (2 ^ t - 1) t) (nI (2 ^ t - 1)) 0 M = _ from cvC_loop hfu htn c82 (fun t => M 45 t) (fun _ _ => rfl) (nI m) (2 ^ t) 0 fu _ (by omega) (by omega) (Or.inl ⟨rfl, rfl⟩), show F_X12_cover_b61 fu (nI m) fu (snF (fun t => M 45 t) (2 ^ t - 1) t) (-1) 0 S = _ from cvR_loop hfu htn s49 (fun t => M 45 t) (fun t ht => (hE t ht).symm) (nI m) (2 ^ t) 0 fu (by omega) (by omega)]
      exact ⟨_, _, _, rfl, rfl⟩
    | succ k ih =>
      intro t n1 n2 acc M S hk h1 h2 hW hS hE hacc
      obtain ⟨n1, rfl⟩ : ∃ z, n1 = z + 1 := ⟨n1 - 1, by omega⟩
      obtain ⟨n2, rfl⟩ : ∃ z, n2 = z + 1 := ⟨n2 - 1, by omega⟩
      have c82 := hW.2.2.2.2.1
      have s49 : S 0 49 = nI tn := (hS 0 49 rfl).trans r49
      have ht8 : t < 8 := by omega
      obtain ⟨v, S1, a1, a2, hS1⟩ := sees_ok hfu hW hS (show t < tn by omega) hm
      have f1 : xfr wr_X12_seesOf S S1 := fr_X12_seesOf _ _ _ _ _ a2
      rw [F_X10_fewestSeeingAll_b4, F_X12_cover_b17, c82, s49, if_neg (show ¬ nI tn ≤ nI t from nI_ge (by omega) (by omega)), if_neg (show ¬ nI tn ≤ nI t from nI_ge (by omega) (by omega)), a1, a2]
      simp only [Option.bind_some]
      rw [put_ok ht8 (by decide), if_neg (idx_no ht8 (by decide)), nI_clamp (by omega)]
      simp only [Option.bind_some, add1]
      rw [at_ok ht8 (by decide), show (xset M 45 t v) 45 t = v by simp [xset]]
      refine ih (t + 1) n1 n2 _ (xset M 45 t v) (xset S1 29 t v) (by omega) (by omega) (by omega) (hW.fr45 (fun k j hk => by
        unfold xset
        rw [if_neg (fun z => hk z.1)])) (hS1.setf (xin_none (by decide) _)) (fun t' ht' => ?_) ?_
      · by_cases e : t' = t
        · subst e
          simp [xset]
        · rw [show (xset M 45 t v) 45 t' = M 45 t' by simp [xset, e], show (xset S1 29 t v) 29 t' = S1 29 t' by simp [xset, e], f1 29 t' rfl]
          exact hE t' (by omega)
      · have e2 : ∀ n, n ≤ t → snF (fun q => (xset M 45 t v) 45 q) (2 ^ 8 - 1) n = snF (fun q => M 45 q) (2 ^ 8 - 1) n := by
          intro n
          induction n with
          | zero => exact fun _ => rfl
          | succ n ih2 =>
            intro hn
            rw [snF, snF, ih2 (by omega), show (xset M 45 t v) 45 n = M 45 n by simp [xset, show n ≠ t by omega]]
        rw [snF, e2 t (Nat.le_refl _), tbF 8 (by decide) t ht8, if_pos rfl, hacc, show (xset M 45 t v) 45 t = v by simp [xset]]
  obtain ⟨v, M', S', a1, a2⟩ := loop tn 0 fu fu 0 C (xset R 0 0 0) (by omega) (by omega) (by omega) hW (x00T R) (fun t' h => absurd h (by omega)) rfl
  rw [show F_X10_fewestSeeingAll fu (nI m) C = _ from a1]
  exact ⟨v, M', S', rfl, a2⟩
end COVER
