/-! sets, open, span, total -/
def cnt (fu : Nat) (R : xM) (lv on m s : Nat) : Bool := (decide (R 13 m = -1) || decide (R 13 m = nI s)) && fitP fu R lv on m s
section FITOPS2
variable {R C : xM} {m lv on mn fu : Nat}
theorem FW.op (hW : FW fu lv on mn C R) (hm : m < mn) : C 24 m = R 13 m := by
  obtain ⟨h1, h2, h3, h4, h5, ⟨n, hn, er, q1, q2⟩, h7, e1, e2, e3, e4, e5, e6, b1, b2, b3⟩ := hW
  have : n = mn := (nI_eq (by omega) (by omega)).mp (er.symm.trans e3)
  subst this
  exact (q1 m hm).1
theorem cC (hfu : 70000 ≤ fu) (hW : FW fu lv on mn C R) (hm : m < mn) {s : Nat} (hs : s < 2 ^ nF R m) : ∃ C', F_X8_counts fu (nI m) (nI s) C = some (b2i (cnt fu R lv on m s), C') ∧ FW fu lv on mn C' R ∧ xfr wr_X2_lay C C' ∧ (cnt fu R lv on m s = true → ∀ l o, l < lv → o < on → R 3 l = nI o → C' 37 l = nI (loP R m s l) ∧ C' 38 l = nI (hiP fu R lv m s o l)) := by
  obtain ⟨C', e1, e2, e3, e4⟩ := fC hfu hW hm hs
  unfold F_X8_counts F_X8_counts_b22 cnt
  rw [at_ok (hW.m6 hm) (by decide), hW.op hm, e1]
  simp only [Option.bind_some]
  have fold : ∀ b : Bool, (if b2i b = 0 then some ((0 : Int32), C') else some ((1 : Int32), C')) = some (b2i b, C') := fun b => by
    cases b <;> rfl
  rw [fold]
  by_cases z : R 13 m = -1
  · rw [if_pos z, decide_eq_true z, Bool.true_or, Bool.true_and]
    exact ⟨C', rfl, e2, e3, e4⟩
  · rw [if_neg z, decide_eq_false z, Bool.false_or]
    by_cases z2 : R 13 m = nI s
    · rw [if_pos z2, decide_eq_true z2, Bool.true_and]
      exact ⟨C', rfl, e2, e3, e4⟩
    · rw [if_neg z2, decide_eq_false z2, Bool.false_and]
      exact ⟨C, rfl, hW, xfr.rf, fun y => absurd y (by decide)⟩
theorem cR {S : xM} (hfu : 70000 ≤ fu) (hW : FW fu lv on mn C R) (hS : xfr wrF R S) (hm : m < mn) (s : Nat) : ∃ S', F_X12_counts fu (nI m) (nI s) S = some (b2i (cnt fu R lv on m s), S') ∧ xfr wrF R S' ∧ (cnt fu R lv on m s = true → ∀ l o, l < lv → o < on → R 3 l = nI o → RD fu S' o l (loP R m s l) (hiP fu R lv m s o l)) := by
  obtain ⟨S', e1, e2, e3⟩ := fR hfu hW hS hm s
  unfold F_X12_counts F_X12_counts_b20 cnt
  rw [if_neg (idx_no (hW.m6 hm) (by decide)), if_neg (idx_no (hW.m6 hm) (by decide)), nI_clamp (by have := hW.m6 hm; omega), hS 13 m rfl, e1]
  simp only [Option.bind_some]
  have fold : ∀ b : Bool, (if b2i b = 0 then some ((0 : Int32), S') else some ((1 : Int32), S')) = some (b2i b, S') := fun b => by
    cases b <;> rfl
  rw [fold]
  by_cases z : R 13 m = -1
  · rw [if_pos z, decide_eq_true z, Bool.true_or, Bool.true_and]
    exact ⟨S', rfl, e2, e3⟩
  · rw [if_neg z, decide_eq_false z, Bool.false_or]
    by_cases z2 : R 13 m = nI s
    · rw [if_pos z2, decide_eq_true z2, Bool.true_and]
      exact ⟨S', rfl, e2, e3⟩
    · rw [if_neg z2, decide_eq_false z2, Bool.false_and]
      exact ⟨S, rfl, hS, fun y => absurd y (by decide)⟩
theorem and_full : ∀ n, n ≤ 8 → ∀ a, a < 2 ^ n → nI (2 ^ n - 1) &&& nI a = nI a := by decide +kernel
theorem zero_or (x : Int32) : 0 ||| x = x := by
  apply Int32.toBitVec_inj.mp
  simp
theorem ia_loop (hfu : 70000 ≤ fu) (hm : m < mn) : ∀ k i n1 n2 (x2 x3 x4 x5 : Int32) (M S : xM), i + k = 2 ^ nF R m → k < n1 → k < n2 → FW fu lv on mn M R → xfr wrF R S → (x5 = 0 ∧ x2 = -1 ∧ x3 = nI (2 ^ nF R m - 1) ∨ x5 = 1 ∧ x2 = x3 ∧ ∃ a, a < 2 ^ 30 ∧ x3 = nI a) → ∃ v M' S', F_X2_inAll_b4 fu (nI m) n1 x2 (nI i) M = some (v, M') ∧ F_X12_sets_b54 fu (nI m) 1 n2 x3 x4 x5 (nI i) S = some (v, S') := by
  intro k
  induction k with
  | zero =>
    intro i n1 n2 x2 x3 x4 x5 M S hi h1 h2 hW hS hx
    obtain ⟨n1, rfl⟩ : ∃ z, n1 = z + 1 := ⟨n1 - 1, by omega⟩
    obtain ⟨n2, rfl⟩ : ∃ z, n2 = z + 1 := ⟨n2 - 1, by omega⟩
    have hp := p2F hW hm
    refine ⟨x2, M, S, ?_, ?_⟩
    · rw [F_X2_inAll_b4, setsC hW hm, if_pos (nI_le (by omega) (by omega))]
    · rw [F_X12_sets_b54, if_neg (idx_no (hW.m6 hm) (by decide)), nI_clamp (by have := hW.m6 hm; omega), setsR hW hS hm, if_pos (nI_le (by omega) (by omega))]
      rcases hx with ⟨rfl, rfl, rfl⟩ | ⟨rfl, rfl, _⟩
      · rw [if_pos rfl]
      · rw [if_neg (by decide), if_pos rfl]
  | succ k ih =>
    intro i n1 n2 x2 x3 x4 x5 M S hi h1 h2 hW hS hx
    obtain ⟨n1, rfl⟩ : ∃ z, n1 = z + 1 := ⟨n1 - 1, by omega⟩
    obtain ⟨n2, rfl⟩ : ∃ z, n2 = z + 1 := ⟨n2 - 1, by omega⟩
    have hp := p2F hW hm
    have hil : i < 2 ^ nF R m := by omega
    obtain ⟨M1, e1, hW1, _, _⟩ := fC hfu hW hm hil
    obtain ⟨S1, e2, hS1, _⟩ := fR hfu hW hS hm i
    rw [F_X2_inAll_b4, setsC hW hm, if_neg (show ¬ nI (2 ^ nF R m) ≤ nI i from nI_ge (by omega) (by omega)), e1, F_X12_sets_b54, if_neg (idx_no (hW.m6 hm) (by decide)), nI_clamp (by have := hW.m6 hm; omega), setsR hW hS hm, if_neg (show ¬ nI (2 ^ nF R m) ≤ nI i from nI_ge (by omega) (by omega)), e2]
    simp only [Option.bind_some, F_X2_inAll_b34, F_X2_inAll_b35, F_X12_sets_b95, add1]
    by_cases z : b2i (fitP fu R lv on m i) = 0
    · rw [if_pos z, if_pos z]
      exact ih (i + 1) n1 n2 _ _ _ _ M1 S1 (by omega) (by omega) (by omega) hW1 hS1 hx
    · rw [if_neg z, if_neg z]
      rcases hx with ⟨rfl, rfl, rfl⟩ | ⟨rfl, rfl, a, ha, rfl⟩
      · rw [if_pos rfl, and_full _ (hW.nf hm).1 i hil]
        exact ih (i + 1) n1 n2 _ _ _ _ M1 S1 (by omega) (by omega) (by omega) hW1 hS1 (Or.inr ⟨rfl, rfl, i, by omega, rfl⟩)
      · rw [if_neg (nIm1 (by omega)), and_nI]
        have : a &&& i ≤ a := Nat.and_le_left
        exact ih (i + 1) n1 n2 _ _ _ _ M1 S1 (by omega) (by omega) (by omega) hW1 hS1 (Or.inr ⟨rfl, rfl, _, by omega, rfl⟩)
theorem is_loop (hfu : 70000 ≤ fu) (hm : m < mn) : ∀ k i n1 n2 (x2 x3 x4 x5 : Int32) (M S : xM), i + k = 2 ^ nF R m → k < n1 → k < n2 → FW fu lv on mn M R → xfr wrF R S → (x5 = 0 ∧ x2 = -1 ∧ x4 = 0 ∨ x5 = 1 ∧ x2 = x4 ∧ ∃ a, a < 2 ^ nF R m ∧ x4 = nI a) → ∃ v M' S', F_X2_inSome_b4 fu (nI m) n1 x2 (nI i) M = some (v, M') ∧ F_X12_sets_b54 fu (nI m) 2 n2 x3 x4 x5 (nI i) S = some (v, S') := by
  intro k
  induction k with
  | zero =>
    intro i n1 n2 x2 x3 x4 x5 M S hi h1 h2 hW hS hx
    obtain ⟨n1, rfl⟩ : ∃ z, n1 = z + 1 := ⟨n1 - 1, by omega⟩
    obtain ⟨n2, rfl⟩ : ∃ z, n2 = z + 1 := ⟨n2 - 1, by omega⟩
    have hp := p2F hW hm
    refine ⟨x2, M, S, ?_, ?_⟩
    · rw [F_X2_inSome_b4, setsC hW hm, if_pos (nI_le (by omega) (by omega))]
    · rw [F_X12_sets_b54, if_neg (idx_no (hW.m6 hm) (by decide)), nI_clamp (by have := hW.m6 hm; omega), setsR hW hS hm, if_pos (nI_le (by omega) (by omega))]
      rcases hx with ⟨rfl, rfl, rfl⟩ | ⟨rfl, rfl, _⟩
      · rw [if_pos rfl]
      · rw [if_neg (by decide), if_neg (by decide)]
  | succ k ih =>
    intro i n1 n2 x2 x3 x4 x5 M S hi h1 h2 hW hS hx
    obtain ⟨n1, rfl⟩ : ∃ z, n1 = z + 1 := ⟨n1 - 1, by omega⟩
    obtain ⟨n2, rfl⟩ : ∃ z, n2 = z + 1 := ⟨n2 - 1, by omega⟩
    have hp := p2F hW hm
    have hil : i < 2 ^ nF R m := by omega
    obtain ⟨M1, e1, hW1, _, _⟩ := fC hfu hW hm hil
    obtain ⟨S1, e2, hS1, _⟩ := fR hfu hW hS hm i
    rw [F_X2_inSome_b4, setsC hW hm, if_neg (show ¬ nI (2 ^ nF R m) ≤ nI i from nI_ge (by omega) (by omega)), e1, F_X12_sets_b54, if_neg (idx_no (hW.m6 hm) (by decide)), nI_clamp (by have := hW.m6 hm; omega), setsR hW hS hm, if_neg (show ¬ nI (2 ^ nF R m) ≤ nI i from nI_ge (by omega) (by omega)), e2]
    simp only [Option.bind_some, F_X2_inSome_b34, F_X2_inSome_b35, F_X12_sets_b95, add1]
    by_cases z : b2i (fitP fu R lv on m i) = 0
    · rw [if_pos z, if_pos z]
      exact ih (i + 1) n1 n2 _ _ _ _ M1 S1 (by omega) (by omega) (by omega) hW1 hS1 hx
    · rw [if_neg z, if_neg z]
      rcases hx with ⟨rfl, rfl, rfl⟩ | ⟨rfl, rfl, a, ha, rfl⟩
      · rw [if_pos rfl, zero_or]
        exact ih (i + 1) n1 n2 _ _ _ _ M1 S1 (by omega) (by omega) (by omega) hW1 hS1 (Or.inr ⟨rfl, rfl, i, by omega, rfl⟩)
      · rw [if_neg (nIm1 (by omega)), or_nI]
        exact ih (i + 1) n1 n2 _ _ _ _ M1 S1 (by omega) (by omega) (by omega) hW1 hS1 (Or.inr ⟨rfl, rfl, _, Nat.or_lt_two_pow ha hil, rfl⟩)
theorem op_sets (hfu : 70000 ≤ fu) (x1 x2 : Int32) (hW : FW fu lv on mn C R) : ∃ v C' R', F_X11_sets fu x1 x2 C = some (v, C') ∧ F_X12_sets fu x1 x2 R = some (v, R') := by
  unfold F_X11_sets F_X12_sets
  rw [hW.meq, isIn_eq (N := C)]
  by_cases h1 : P_X5_isMachine x1 C = 0
  · rw [if_pos h1, if_pos h1]
    exact ⟨-1, _, _, rfl, rfl⟩
  obtain ⟨m, hm, rfl⟩ := Classical.not_not.mp fun z => h1 (hW.mc.mpr z)
  have hp := p2F hW hm
  rw [if_neg h1, if_neg h1]
  by_cases h2 : P_X1_within x2 0 2 C = 0
  · rw [if_pos h2, if_pos h2]
    exact ⟨-1, _, _, rfl, rfl⟩
  obtain ⟨j, hj, rfl⟩ := within_in (n := 2) (by decide) h2
  rw [if_neg h2, if_neg h2]
  by_cases hj0 : j = 0
  · subst hj0
    rw [if_pos (show nI 0 = 0 from rfl), if_pos (show nI 0 = 0 from rfl)]
    obtain ⟨C', f1, _⟩ := fewC hfu hW hm
    obtain ⟨R', f2, _⟩ := fewR hfu hW hm (x00F R)
    rw [f1, f2]
    exact ⟨_, _, _, rfl, rfl⟩
  have hj0' : ¬ nI j = 0 := nI_ne0 (by omega) (by omega)
  rw [if_neg hj0', if_neg hj0', if_neg (idx_no (hW.m6 hm) (by decide)), nI_clamp (by have := hW.m6 hm; omega), setsR hW (x00F R) hm, sub1 (Nat.one_le_two_pow)]
  by_cases hj1 : j = 1
  · subst hj1
    obtain ⟨v, M', S', a1, a2⟩ := ia_loop (R := R) hfu hm (2 ^ nF R m) 0 fu fu (-1) (nI (2 ^ nF R m - 1)) 0 0 C (xset R 0 0 0) (by omega) (by omega) (by omega) hW (x00F R) (Or.inl ⟨rfl, rfl, rfl⟩)
    rw [if_pos (show nI 1 = 1 from rfl), show F_X2_inAll fu (nI m) C = _ from a1]
    exact ⟨v, M', S', rfl, a2⟩
  · obtain rfl : j = 2 := by omega
    obtain ⟨v, M', S', a1, a2⟩ := is_loop (R := R) hfu hm (2 ^ nF R m) 0 fu fu (-1) (nI (2 ^ nF R m - 1)) 0 0 C (xset R 0 0 0) (by omega) (by omega) (by omega) hW (x00F R) (Or.inl ⟨rfl, rfl, rfl⟩)
    rw [if_neg (by decide), show F_X2_inSome fu (nI m) C = _ from a1]
    exact ⟨v, M', S', rfl, a2⟩
theorem op_open (hfu : 70000 ≤ fu) (x1 x2 : Int32) (hW : FW fu lv on mn C R) : ∃ v C' R', F_X11_open fu x1 x2 C = some (v, C') ∧ F_X12_open fu x1 x2 R = some (v, R') ∧ RC C' R' := by
  unfold F_X11_open F_X12_open
  rw [hW.meq]
  have hC0 := hW.2.2.2.2.2.1
  by_cases h1 : P_X5_isMachine x1 C = 0
  · rw [if_pos h1, if_pos h1]
    exact ⟨0, C, xset R 0 0 0, rfl, rfl, hC0⟩
  obtain ⟨m, hm, rfl⟩ := Classical.not_not.mp fun z => h1 (hW.mc.mpr z)
  have hp := p2F hW hm
  have hm6 := hW.m6 hm
  rw [if_neg h1, if_neg h1]
  have fin : ∀ C1 R1, FW fu lv on mn C1 R1 → ∃ v C' R', F_X11_open_b30 fu (nI m) x2 C1 = some (v, C') ∧ F_X12_open_b49 fu (nI m) x2 R1 = some (v, R') ∧ RC C' R' := by
    intro C1 R1 hW1
    unfold F_X11_open_b30 F_X12_open_b49
    rw [put_ok hm6 (by decide), if_neg (idx_no hm6 (by decide)), nI_clamp (by omega)]
    obtain ⟨g1, g2, g3, g4, g5, ⟨n, hn, er, q1, q2⟩, g7, e1, e2, e3, e4, e5, e6, b1, b2, b3⟩ := hW1
    have en : n = mn := (nI_eq (by omega) (by omega)).mp (er.symm.trans e3)
    subst en
    refine ⟨1, xset C1 24 m x2, xset R1 13 m x2, rfl, rfl, n, hn, er, fun k hk => ?_, fun k hk hk2 => ?_⟩
    · obtain ⟨a1, a2⟩ := q1 k hk
      by_cases e : k = m
      · subst e
        exact ⟨by simp [xset], a2⟩
      · exact ⟨by simp [xset, e, a1], a2⟩
    · have e : ¬ k = m := by omega
      obtain ⟨a1, a2⟩ := q2 k hk hk2
      exact ⟨by simp [xset, e, a1], a2⟩
  by_cases hx : x2 = -1
  · rw [if_pos hx, if_pos hx]
    exact fin C (xset R 0 0 0) (hW.wr (x00F R))
  rw [if_neg hx, if_neg hx, if_neg (idx_no hm6 (by decide)), nI_clamp (by omega), setsR hW (x00F R) hm, isIn_eq (N := C)]
  by_cases h2 : P_X1_within x2 0 (nI (2 ^ nF R m) - 1) C = 0
  · rw [if_pos h2]
    unfold F_X2_lay
    rw [setsC hW hm, if_pos h2]
    exact ⟨0, C, xset R 0 0 0, rfl, rfl, hC0⟩
  · obtain ⟨s, hs, rfl⟩ := Classical.not_not.mp fun z => h2 ((withinm1 (by omega)).mpr z)
    obtain ⟨C1, f1, hW1, _⟩ := fC hfu hW hm hs
    obtain ⟨S1, f2, hS1, _⟩ := fR hfu hW (x00F R) hm s
    have hW2 := hW1.wr hS1
    rw [if_neg h2, f1, f2]
    simp only [Option.bind_some]
    by_cases z : b2i (fitP fu R lv on m s) = 0
    · rw [if_pos z, if_pos z]
      exact ⟨0, C1, S1, rfl, rfl, hW2.2.2.2.2.2.1⟩
    · rw [if_neg z, if_neg z]
      exact fin C1 S1 hW2
end FITOPS2
