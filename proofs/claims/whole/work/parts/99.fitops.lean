/-! fitting, sets, open -/
def nF (R : xM) (m : Nat) : Nat := (R 15 m).toNatClampNeg
def b2i (b : Bool) : Int32 := if b = true then 1 else 0
abbrev fwl (fu : Nat) (R : xM) (lv on m : Nat) : Int32 := bst (fitP fu R lv on m) (2 ^ nF R m)
section FITOPS
variable {R C : xM} {m lv on mn fu : Nat}
theorem b2i0 {b : Bool} : b2i b = 0 ↔ b = false := by
  cases b <;> decide
theorem FW.mk' (hN : RN C R) (hO : RO C R) (hF : RF C R) (hS : RS C R) (hQ : RQ C R) (hC : RC C R) (hY : RY fu C R) : ∃ lv on mn, FW fu lv on mn C R := by
  have hN0 := hN
  obtain ⟨lv, on, sn, ln, mn, tn, tl, kn, ⟨b1, b2, b3, b4, b5, b6, b7, b8, b9⟩, ⟨c1, c2, c3, c4, c5, c6, c7, c8⟩, ⟨r1, r2, r3, r4, r5, r6, r7, r8⟩⟩ := hN
  exact ⟨lv, on, mn, hN0, hO, hF, hS, hQ, hC, hY, r1, r2, r5, c1, c2, c5, b2, b3, b6⟩
theorem FW.mc (hW : FW fu lv on mn C R) {x : Int32} : P_X5_isMachine x C = 0 ↔ ¬ inN x mn := by
  obtain ⟨h1, h2, h3, h4, h5, h6, h7, e1, e2, e3, e4, e5, e6, b1, b2, b3⟩ := hW
  exact mach0 b3 e6
theorem FW.meq (hW : FW fu lv on mn C R) {x : Int32} : P_X12_isMachine x (xset R 0 0 0) = P_X5_isMachine x C := by
  obtain ⟨h1, h2, h3, h4, h5, h6, h7, e1, e2, e3, e4, e5, e6, b1, b2, b3⟩ := hW
  exact mach_eq b3 e6 e3
theorem FW.m6 (hW : FW fu lv on mn C R) (hm : m < mn) : m < 6 := by
  have := hW.2.2.2.2.2.2.2.2.2.2.2.2.2.2.2
  omega
theorem FW.nf (hW : FW fu lv on mn C R) (hm : m < mn) : nF R m ≤ 8 ∧ R 15 m = nI (nF R m) ∧ C 27 m = nI (nF R m) := by
  obtain ⟨F, hF, eF, ecl, hQ, _⟩ := mf_ok hW hm
  have : nF R m = F := ecl
  rw [this]
  exact ⟨hF, eF, hQ.1⟩
theorem FW.b16 (hW : FW fu lv on mn C R) : lv ≤ 16 ∧ on ≤ 6 ∧ mn ≤ 6 := hW.2.2.2.2.2.2.2.2.2.2.2.2.2
theorem fC (hfu : 70000 ≤ fu) (hW : FW fu lv on mn C R) (hm : m < mn) {s : Nat} (hs : s < 2 ^ nF R m) : ∃ C', F_X2_lay fu (nI m) (nI s) C = some (b2i (fitP fu R lv on m s), C') ∧ FW fu lv on mn C' R ∧ xfr wr_X2_lay C C' ∧ (fitP fu R lv on m s = true → ∀ l o, l < lv → o < on → R 3 l = nI o → C' 37 l = nI (loP R m s l) ∧ C' 38 l = nI (hiP fu R lv m s o l)) := by
  obtain ⟨C', e1, e2⟩ := fitC hfu hW hm hs
  have f : xfr wr_X2_lay C C' := fr_X2_lay _ _ _ _ _ e1
  exact ⟨C', e1, hW.fr (wr := []) f xfr.rf (by decide) (by decide), f, e2⟩
theorem FW.wr {S : xM} (hW : FW fu lv on mn C R) (hS : xfr wrF R S) : FW fu lv on mn C S := hW.fr (wc := []) xfr.rf hS (by decide) (by decide)
theorem fR {S : xM} (hfu : 70000 ≤ fu) (hW : FW fu lv on mn C R) (hS : xfr wrF R S) (hm : m < mn) (s : Nat) : ∃ S', F_X12_fits fu (nI m) (nI s) S = some (b2i (fitP fu R lv on m s), S') ∧ xfr wrF R S' ∧ (fitP fu R lv on m s = true → ∀ l o, l < lv → o < on → R 3 l = nI o → RD fu S' o l (loP R m s l) (hiP fu R lv m s o l)) := by
  have hm6 := hW.m6 hm
  have h8 := (hW.nf hm).1
  obtain ⟨S', e1, e2⟩ := fitR hfu (hW.wr hS) hm s
  have f : xfr wr_X12_fits S S' := fr_X12_fits _ _ _ _ _ e1
  rw [fitP_fr hS hm6 h8] at e1 e2
  refine ⟨S', e1, hS.tr (f.mono (by decide)), fun z l o hl ho hr => ?_⟩
  have := e2 z l o hl ho (by rw [hS 3 l rfl]; exact hr)
  rw [loP_fr hS hm6 h8, hiP_fr hS hm6 h8] at this
  exact this
theorem x00F (R : xM) : xfr wrF R (xset R 0 0 0) := fun k j h => by
  unfold xset
  rw [if_neg]
  rintro ⟨rfl, rfl⟩
  exact absurd h (by decide)
theorem setsC (hW : FW fu lv on mn C R) (hm : m < mn) : P_X2_setsOf (nI m) C = nI (2 ^ nF R m) := by
  obtain ⟨h8, e1, e2⟩ := hW.nf hm
  unfold P_X2_setsOf
  rw [P_X5_faultsOf, at_ok (hW.m6 hm) (by decide), e2, bit_eq (by omega), p2 (by omega)]
theorem setsR {S : xM} (hW : FW fu lv on mn C R) (hS : xfr wrF R S) (hm : m < mn) : (1 : Int32) <<< (S 15 m &&& 31) = nI (2 ^ nF R m) := by
  obtain ⟨h8, e1, e2⟩ := hW.nf hm
  rw [hS 15 m rfl, e1, p2 (by omega)]
theorem p2F (hW : FW fu lv on mn C R) (hm : m < mn) : 2 ^ nF R m ≤ 256 := Nat.pow_le_pow_right (n := 2) (by decide) (hW.nf hm).1
theorem hm_loop (hfu : 70000 ≤ fu) (hm : m < mn) : ∀ k i n1 n2 (c : Nat) (M S : xM), i + k = 2 ^ nF R m → c ≤ i → k < n1 → k < n2 → FW fu lv on mn M R → xfr wrF R S → ∃ v M' S', F_X2_howMany_b4 fu (nI m) n1 (nI c) (nI i) M = some (v, M') ∧ F_X12_fitting_b20 fu (nI m) (-1) n2 (nI c) (nI i) S = some (v, S') := by
  intro k
  induction k with
  | zero =>
    intro i n1 n2 c M S hi hc h1 h2 hW hS
    obtain ⟨n1, rfl⟩ : ∃ z, n1 = z + 1 := ⟨n1 - 1, by omega⟩
    obtain ⟨n2, rfl⟩ : ∃ z, n2 = z + 1 := ⟨n2 - 1, by omega⟩
    have hp := p2F hW hm
    refine ⟨nI c, M, S, ?_, ?_⟩
    · rw [F_X2_howMany_b4, setsC hW hm, if_pos (nI_le (by omega) (by omega))]
    · rw [F_X12_fitting_b20, if_neg (idx_no (hW.m6 hm) (by decide)), nI_clamp (by have := hW.m6 hm; omega), setsR hW hS hm, if_pos (nI_le (by omega) (by omega)), if_pos rfl]
  | succ k ih =>
    intro i n1 n2 c M S hi hc h1 h2 hW hS
    obtain ⟨n1, rfl⟩ : ∃ z, n1 = z + 1 := ⟨n1 - 1, by omega⟩
    obtain ⟨n2, rfl⟩ : ∃ z, n2 = z + 1 := ⟨n2 - 1, by omega⟩
    have hp := p2F hW hm
    obtain ⟨M1, e1, hW1, _, _⟩ := fC hfu hW hm (show i < 2 ^ nF R m by omega)
    obtain ⟨S1, e2, hS1, _⟩ := fR hfu hW hS hm i
    rw [F_X2_howMany_b4, setsC hW hm, if_neg (show ¬ nI (2 ^ nF R m) ≤ nI i from nI_ge (by omega) (by omega)), e1, F_X12_fitting_b20, if_neg (idx_no (hW.m6 hm) (by decide)), nI_clamp (by have := hW.m6 hm; omega), setsR hW hS hm, if_neg (show ¬ nI (2 ^ nF R m) ≤ nI i from nI_ge (by omega) (by omega)), e2]
    simp only [Option.bind_some, F_X2_howMany_b25, F_X12_fitting_b57, add1]
    by_cases z : b2i (fitP fu R lv on m i) = 0
    · rw [if_pos z, if_pos z]
      exact ih (i + 1) n1 n2 c M1 S1 (by omega) (by omega) (by omega) (by omega) hW1 hS1
    · rw [if_neg z, if_neg z, if_neg (show ¬ nI c = -1 from nIm1 (by omega))]
      exact ih (i + 1) n1 n2 (c + 1) M1 S1 (by omega) (by omega) (by omega) (by omega) hW1 hS1
theorem nu_loop (hfu : 70000 ≤ fu) (hm : m < mn) {x2 : Int32} (hx : ¬ x2 = -1) : ∀ k i n1 n2 (c : Int32) (M S : xM), i + k = 2 ^ nF R m → k < n1 → k < n2 → FW fu lv on mn M R → xfr wrF R S → ∃ v M' S', F_X2_numbered_b5 fu (nI m) x2 n1 c (nI i) M = some (v, M') ∧ F_X12_fitting_b20 fu (nI m) x2 n2 c (nI i) S = some (v, S') := by
  intro k
  induction k with
  | zero =>
    intro i n1 n2 c M S hi h1 h2 hW hS
    obtain ⟨n1, rfl⟩ : ∃ z, n1 = z + 1 := ⟨n1 - 1, by omega⟩
    obtain ⟨n2, rfl⟩ : ∃ z, n2 = z + 1 := ⟨n2 - 1, by omega⟩
    have hp := p2F hW hm
    refine ⟨-1, M, S, ?_, ?_⟩
    · rw [F_X2_numbered_b5, setsC hW hm, if_pos (nI_le (by omega) (by omega))]
    · rw [F_X12_fitting_b20, if_neg (idx_no (hW.m6 hm) (by decide)), nI_clamp (by have := hW.m6 hm; omega), setsR hW hS hm, if_pos (nI_le (by omega) (by omega)), if_neg hx]
  | succ k ih =>
    intro i n1 n2 c M S hi h1 h2 hW hS
    obtain ⟨n1, rfl⟩ : ∃ z, n1 = z + 1 := ⟨n1 - 1, by omega⟩
    obtain ⟨n2, rfl⟩ : ∃ z, n2 = z + 1 := ⟨n2 - 1, by omega⟩
    have hp := p2F hW hm
    obtain ⟨M1, e1, hW1, _, _⟩ := fC hfu hW hm (show i < 2 ^ nF R m by omega)
    obtain ⟨S1, e2, hS1, _⟩ := fR hfu hW hS hm i
    rw [F_X2_numbered_b5, setsC hW hm, if_neg (show ¬ nI (2 ^ nF R m) ≤ nI i from nI_ge (by omega) (by omega)), e1, F_X12_fitting_b20, if_neg (idx_no (hW.m6 hm) (by decide)), nI_clamp (by have := hW.m6 hm; omega), setsR hW hS hm, if_neg (show ¬ nI (2 ^ nF R m) ≤ nI i from nI_ge (by omega) (by omega)), e2]
    simp only [Option.bind_some, F_X2_numbered_b36, F_X12_fitting_b57, add1]
    by_cases z : b2i (fitP fu R lv on m i) = 0
    · rw [if_pos z, if_pos z]
      exact ih (i + 1) n1 n2 c M1 S1 (by omega) (by omega) (by omega) hW1 hS1
    · rw [if_neg z, if_neg z]
      by_cases z2 : c = x2
      · rw [if_pos z2, if_pos z2]
        exact ⟨_, _, _, rfl, rfl⟩
      · rw [if_neg z2, if_neg z2]
        exact ih (i + 1) n1 n2 _ M1 S1 (by omega) (by omega) (by omega) hW1 hS1
theorem op_fitting (hfu : 70000 ≤ fu) (x1 x2 : Int32) (hW : FW fu lv on mn C R) : ∃ v C' R', F_X11_fitting fu x1 x2 C = some (v, C') ∧ F_X12_fitting fu x1 x2 R = some (v, R') := by
  unfold F_X11_fitting F_X12_fitting
  rw [hW.meq]
  by_cases h1 : P_X5_isMachine x1 C = 0
  · rw [if_pos h1, if_pos h1]
    exact ⟨-1, _, _, rfl, rfl⟩
  obtain ⟨m, hm, rfl⟩ := Classical.not_not.mp fun z => h1 (hW.mc.mpr z)
  have hp := p2F hW hm
  rw [if_neg h1, if_neg h1]
  by_cases hx : x2 = -1
  · subst hx
    obtain ⟨v, M', S', h1, h2⟩ := hm_loop (R := R) hfu hm (2 ^ nF R m) 0 fu fu 0 C (xset R 0 0 0) (by omega) (by omega) (by omega) (by omega) hW (x00F R)
    rw [if_pos rfl, show F_X2_howMany fu (nI m) C = _ from h1]
    exact ⟨v, M', S', rfl, h2⟩
  · obtain ⟨v, M', S', h1, h2⟩ := nu_loop (R := R) hfu hm hx (2 ^ nF R m) 0 fu fu 0 C (xset R 0 0 0) (by omega) (by omega) (by omega) hW (x00F R)
    rw [if_neg hx, show F_X2_numbered fu (nI m) x2 C = _ from h1]
    exact ⟨v, M', S', rfl, h2⟩
-- the FEWEST
theorem fwC2_loop (hfu : 70000 ≤ fu) (hm : m < mn) : ∀ k i n (M : xM), i + k = 2 ^ nF R m → k < n → FW fu lv on mn M R → ∃ M', F_X2_fewest_b4 fu (nI m) n (bst (fitP fu R lv on m) i) (nI i) M = some (fwl fu R lv on m, M') ∧ FW fu lv on mn M' R ∧ xfr wr_X2_lay M M' := by
  intro k
  induction k with
  | zero =>
    intro i n M hi hn hW
    obtain ⟨n, rfl⟩ : ∃ z, n = z + 1 := ⟨n - 1, by omega⟩
    have hp := p2F hW hm
    obtain rfl : i = 2 ^ nF R m := by omega
    rw [F_X2_fewest_b4, setsC hW hm, if_pos (nI_le (Nat.le_refl _) (by omega))]
    exact ⟨M, rfl, hW, xfr.rf⟩
  | succ k ih =>
    intro i n M hi hn hW
    obtain ⟨n, rfl⟩ : ∃ z, n = z + 1 := ⟨n - 1, by omega⟩
    have hp := p2F hW hm
    obtain ⟨M1, e1, hW1, f1, _⟩ := fC hfu hW hm (show i < 2 ^ nF R m by omega)
    have I := ih (i + 1) n
    rw [bst] at I
    rw [F_X2_fewest_b4, setsC hW hm, if_neg (show ¬ nI (2 ^ nF R m) ≤ nI i from nI_ge (by omega) (by omega)), bef_eq (N := fun _ _ => 0)]
    simp only [F_X2_fewest_b26, F_X2_fewest_b37, e1, Option.bind_some, add1]
    have go : (decide (bst (fitP fu R lv on m) i = -1) || decide (¬ P_X12_isBefore (nI i) (bst (fitP fu R lv on m) i) (fun _ _ => 0) = 0)) = true → ∃ M', (if b2i (fitP fu R lv on m i) = 0 then F_X2_fewest_b4 fu (nI m) n (bst (fitP fu R lv on m) i) (nI (i + 1)) M1 else F_X2_fewest_b4 fu (nI m) n (nI i) (nI (i + 1)) M1) = some (fwl fu R lv on m, M') ∧ FW fu lv on mn M' R ∧ xfr wr_X2_lay M M' := by
      intro hc
      rw [hc, Bool.and_true] at I
      cases hf : fitP fu R lv on m i with
      | false =>
        rw [hf, if_neg (by decide)] at I
        rw [if_pos (by decide)]
        obtain ⟨M', a1, a2, a3⟩ := I M1 (by omega) (by omega) hW1
        exact ⟨M', a1, a2, f1.tr a3⟩
      | true =>
        rw [hf, if_pos rfl] at I
        rw [if_neg (by decide)]
        obtain ⟨M', a1, a2, a3⟩ := I M1 (by omega) (by omega) hW1
        exact ⟨M', a1, a2, f1.tr a3⟩
    by_cases z : bst (fitP fu R lv on m) i = -1
    · rw [if_pos z]
      exact go (by rw [decide_eq_true z, Bool.true_or])
    · rw [if_neg z]
      by_cases z2 : P_X12_isBefore (nI i) (bst (fitP fu R lv on m) i) (fun _ _ => 0) = 0
      · rw [if_pos z2]
        rw [decide_eq_false z, decide_eq_false (fun y => y z2), Bool.or_false, Bool.and_false, if_neg (by decide)] at I
        exact I M (by omega) (by omega) hW
      · rw [if_neg z2]
        exact go (by rw [decide_eq_true z2, Bool.or_true])
theorem fwR2_loop (hfu : 70000 ≤ fu) (hW : FW fu lv on mn C R) (hm : m < mn) : ∀ k i n (S : xM), i + k = 2 ^ nF R m → k < n → xfr wrF R S → ∃ S', F_X12_fewestOf_b4 fu (nI m) n (bst (fitP fu R lv on m) i) (nI i) S = some (fwl fu R lv on m, S') ∧ xfr wrF R S' := by
  have hp := p2F hW hm
  have hm6 := hW.m6 hm
  intro k
  induction k with
  | zero =>
    intro i n S hi hn hS
    obtain ⟨n, rfl⟩ : ∃ z, n = z + 1 := ⟨n - 1, by omega⟩
    obtain rfl : i = 2 ^ nF R m := by omega
    rw [F_X12_fewestOf_b4, if_neg (idx_no hm6 (by decide)), nI_clamp (by omega), setsR hW hS hm, if_pos (nI_le (Nat.le_refl _) (by omega))]
    exact ⟨S, rfl, hS⟩
  | succ k ih =>
    intro i n S hi hn hS
    obtain ⟨n, rfl⟩ : ∃ z, n = z + 1 := ⟨n - 1, by omega⟩
    obtain ⟨S1, e1, hS1, _⟩ := fR hfu hW hS hm i
    have I := ih (i + 1) n
    rw [bst] at I
    rw [F_X12_fewestOf_b4, if_neg (idx_no hm6 (by decide)), nI_clamp (by omega), setsR hW hS hm, if_neg (show ¬ nI (2 ^ nF R m) ≤ nI i from nI_ge (by omega) (by omega)), show P_X12_isBefore (nI i) (bst (fitP fu R lv on m) i) S = P_X12_isBefore (nI i) (bst (fitP fu R lv on m) i) (fun _ _ => 0) from rfl]
    simp only [F_X12_fewestOf_b29, F_X12_fewestOf_b40, e1, Option.bind_some, add1]
    have go : (decide (bst (fitP fu R lv on m) i = -1) || decide (¬ P_X12_isBefore (nI i) (bst (fitP fu R lv on m) i) (fun _ _ => 0) = 0)) = true → ∃ S', (if b2i (fitP fu R lv on m i) = 0 then F_X12_fewestOf_b4 fu (nI m) n (bst (fitP fu R lv on m) i) (nI (i + 1)) S1 else F_X12_fewestOf_b4 fu (nI m) n (nI i) (nI (i + 1)) S1) = some (fwl fu R lv on m, S') ∧ xfr wrF R S' := by
      intro hc
      rw [hc, Bool.and_true] at I
      cases hf : fitP fu R lv on m i with
      | false =>
        rw [hf, if_neg (by decide)] at I
        rw [if_pos (by decide)]
        exact I S1 (by omega) (by omega) hS1
      | true =>
        rw [hf, if_pos rfl] at I
        rw [if_neg (by decide)]
        exact I S1 (by omega) (by omega) hS1
    by_cases z : bst (fitP fu R lv on m) i = -1
    · rw [if_pos z]
      exact go (by rw [decide_eq_true z, Bool.true_or])
    · rw [if_neg z]
      by_cases z2 : P_X12_isBefore (nI i) (bst (fitP fu R lv on m) i) (fun _ _ => 0) = 0
      · rw [if_pos z2]
        rw [decide_eq_false z, decide_eq_false (fun y => y z2), Bool.or_false, Bool.and_false, if_neg (by decide)] at I
        exact I S (by omega) (by omega) hS
      · rw [if_neg z2]
        exact go (by rw [decide_eq_true z2, Bool.or_true])
theorem fewC (hfu : 70000 ≤ fu) (hW : FW fu lv on mn C R) (hm : m < mn) : ∃ C', F_X2_fewest fu (nI m) C = some (fwl fu R lv on m, C') ∧ FW fu lv on mn C' R ∧ xfr wr_X2_lay C C' :=
  fwC2_loop hfu hm (2 ^ nF R m) 0 fu C (by omega) (by have := p2F hW hm; omega) hW
theorem fewR {S : xM} (hfu : 70000 ≤ fu) (hW : FW fu lv on mn C R) (hm : m < mn) (hS : xfr wrF R S) : ∃ S', F_X12_fewestOf fu (nI m) S = some (fwl fu R lv on m, S') ∧ xfr wrF R S' :=
  fwR2_loop hfu hW hm (2 ^ nF R m) 0 fu S (by omega) (by have := p2F hW hm; omega) hS
end FITOPS
