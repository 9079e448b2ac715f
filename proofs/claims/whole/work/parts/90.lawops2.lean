/-! use, machine, voters, agree -/
section LAWOPS2
variable {C R : xM} {fu ln : Nat}
theorem settle_ok (hfu : 70000 ≤ fu) (hH : LH fu ln C R) {mn m : Nat} (hmn : mn ≤ 6) (c5 : C 5 1 = nI mn) (hm : m < mn) {x : Int32} (c31 : C 3 1 = x) (hx : okL x ln) : ∃ C1, F_X11_settleVoters fu (nI m) C = some (xset C1 23 m (vot fu R m x)) ∧ xfr wr_X4_votersBy C C1 := by
  obtain ⟨C1, e1⟩ := vbC hfu hH hx (show m < 6 by omega)
  refine ⟨C1, ?_, fr_X4_votersBy _ _ _ _ _ _ _ e1⟩
  unfold F_X11_settleVoters
  rw [if_neg (fun z => (mach0 hmn c5).mp z ⟨m, hm, rfl⟩), c31, cnt5c, e1]
  simp only [Option.bind_some]
  rw [put_ok (show m < 6 by omega) (by decide)]
  rfl
theorem us_loop (hfu : 70000 ≤ fu) {mn : Nat} (hmn : mn ≤ 6) {x : Int32} (hx : okL x ln) (x1 : Int32) : ∀ k i n M, i + k = mn → k < n → LH fu ln M R → M 5 1 = nI mn → M 3 1 = x → (∀ j, j < i → M 23 j = vot fu R j x) → ∃ M', F_X11_use_b28 fu x1 n (nI i) M = some (1, M') ∧ LH fu ln M' R ∧ M' 3 1 = x ∧ ∀ j, j < mn → M' 23 j = vot fu R j x := by
  intro k
  induction k with
  | zero =>
    intro i n M hi hn hH c5 c31 hv
    obtain ⟨n, rfl⟩ : ∃ z, n = z + 1 := ⟨n - 1, by omega⟩
    rw [F_X11_use_b28, c5, if_pos (nI_le (by omega) (by omega))]
    exact ⟨M, rfl, hH, c31, fun j hj => hv j (by omega)⟩
  | succ k ih =>
    intro i n M hi hn hH c5 c31 hv
    obtain ⟨n, rfl⟩ : ∃ z, n = z + 1 := ⟨n - 1, by omega⟩
    obtain ⟨C1, e1, f1⟩ := settle_ok hfu hH hmn c5 (show i < mn by omega) c31 hx
    rw [F_X11_use_b28, c5, if_neg (show ¬ nI mn ≤ nI i from nI_ge (by omega) (by omega)), e1]
    simp only [Option.bind_some, add1]
    have hH1 : LH fu ln C1 R := rel_fr (P := LH fu ln) (wr := []) (LH_m fu ln) hH f1 xfr.rf (by decide) (by decide)
    refine ih (i + 1) n _ (by omega) (by omega) hH1 ((f1 5 1 rfl).trans c5) ((f1 3 1 rfl).trans c31) (fun j hj => ?_)
    by_cases e : j = i
    · subst e
      simp [xset]
    · rw [← hv j (by omega), ← f1 23 j rfl]
      simp [xset, e]
theorem op_use (hfu : 70000 ≤ fu) (x1 : Int32) (hN : RN C R) (hY : RY fu C R) : ∃ v C' R', F_X11_use fu x1 C = some (v, C') ∧ F_X12_use x1 R = some (v, R') ∧ RY fu C' R' := by
  obtain ⟨lv, on, sn, ln, mn, tn, tl, kn, ⟨b1, b2, b3, b4, b5, b6, b7, b8, b9⟩, ⟨c1, c2, c3, c4, c5, c6, c7, c8⟩, ⟨r1, r2, r3, r4, r5, r6, r7, r8⟩⟩ := hN
  have hY0 := hY
  obtain ⟨ln', mn', hH, hm, y32, yu, yo, yv⟩ := hY
  have el : ln' = ln := (nI_eq (by have := hH.1; omega) (by omega)).mp (hH.2.1.symm.trans c4)
  have em : mn' = mn := (nI_eq (by omega) (by omega)).mp (y32.symm.trans r5)
  subst el em
  have go : okL x1 ln' → ∃ v C' R', F_X11_use_b18 fu x1 C = some (v, C') ∧ F_X12_use_b26 x1 (xset R 0 0 0) = some (v, R') ∧ RY fu C' R' := by
    intro hx
    obtain ⟨C', e1, g1, g2, g3⟩ := us_loop (R := R) hfu hm hx x1 mn' 0 fu (xset C 3 1 x1) (by omega) (by omega) hH c5 (by simp [xset]) (fun j hj => absurd hj (by omega))
    refine ⟨1, C', xset (xset R 0 0 0) 0 17 x1, e1, rfl, ln', mn', g1, hm, y32, ?_, ?_, ?_⟩
    · rw [g2]
      simp [xset]
    · have : (xset (xset R 0 0 0) 0 17 x1) 0 17 = x1 := by simp [xset]
      rw [this]
      exact hx
    · intro m hmm
      have : (xset (xset R 0 0 0) 0 17 x1) 0 17 = x1 := by simp [xset]
      rw [this, g3 m hmm]
      rfl
  unfold F_X11_use F_X12_use
  by_cases hx : x1 = -1
  · rw [if_pos hx, if_pos hx]
    exact go (Or.inl hx)
  rw [if_neg hx, if_neg hx, show (xset R 0 0 0) 0 16 = nI ln' from r4, isIn_eq (N := C), show P_X1_within x1 0 (nI ln' - 1) C = P_X4_isLaw x1 C by unfold P_X4_isLaw; rw [c4]]
  by_cases h1 : P_X4_isLaw x1 C = 0
  · rw [if_pos h1, if_pos h1]
    exact ⟨0, C, xset R 0 0 0, rfl, rfl, hY0⟩
  · rw [if_neg h1, if_neg h1]
    obtain ⟨l, hl, e⟩ := Classical.not_not.mp fun z => h1 ((isLaw_ok c4 b5).mpr z)
    exact go (Or.inr ⟨l, hl, e⟩)
theorem op_voters (hfu : 70000 ≤ fu) (x1 : Int32) (hN : RN C R) (hY : RY fu C R) : ∃ R', F_X12_voters fu x1 R = some (P_X11_voters x1 C, R') := by
  obtain ⟨lv, on, sn, ln, mn, tn, tl, kn, ⟨b1, b2, b3, b4, b5, b6, b7, b8, b9⟩, ⟨c1, c2, c3, c4, c5, c6, c7, c8⟩, ⟨r1, r2, r3, r4, r5, r6, r7, r8⟩⟩ := hN
  obtain ⟨ln', mn', hH, hm, y32, yu, yo, yv⟩ := hY
  have em : mn' = mn := (nI_eq (by omega) (by omega)).mp (y32.symm.trans r5)
  subst em
  unfold F_X12_voters P_X11_voters
  rw [mach_eq (C := C) (R := xset R 0 0 0) hm c5 r5]
  by_cases h1 : P_X5_isMachine x1 C = 0
  · rw [if_pos h1, if_pos h1]
    exact ⟨_, rfl⟩
  obtain ⟨m, hmm, rfl⟩ := Classical.not_not.mp fun z => h1 ((mach0 hm c5).mpr z)
  obtain ⟨R', e1⟩ := vbR (C := C) (R := xset R 0 0 0) hfu hH (x := R 0 17) yo (show m < 6 by omega)
  rw [if_neg h1, if_neg h1, at_ok (show m < 6 by omega) (by decide), yv m hmm, show (xset R 0 0 0) 0 17 = R 0 17 from rfl, e1]
  exact ⟨R', rfl⟩
theorem ag_loop (hfu : 70000 ≤ fu) {m : Nat} (hm : m < 6) : ∀ k i n1 n2 (acc : Int32) (M S : xM), i + k = ln → k < n1 → k < n2 → LH fu ln M S → (∀ j, S 11 j = R 11 j) → ∃ v M' S', F_X4_agreeing_b5 fu 22 30 (nI (m * 5)) n1 acc (nI i) M = some (v, M') ∧ F_X12_agree_b19 fu (nI m) n2 acc (nI i) S = some (v, S') := by
  intro k
  induction k with
  | zero =>
    intro i n1 n2 acc M S hi h1 h2 hH h11
    obtain ⟨n1, rfl⟩ : ∃ z, n1 = z + 1 := ⟨n1 - 1, by omega⟩
    obtain ⟨n2, rfl⟩ : ∃ z, n2 = z + 1 := ⟨n2 - 1, by omega⟩
    have := hH.1
    rw [F_X4_agreeing_b5, F_X12_agree_b19, hH.2.1, hH.2.2.1, if_pos (nI_le (by omega) (by omega)), if_pos (nI_le (by omega) (by omega))]
    exact ⟨_, _, _, rfl, rfl⟩
  | succ k ih =>
    intro i n1 n2 acc M S hi h1 h2 hH h11
    obtain ⟨n1, rfl⟩ : ∃ z, n1 = z + 1 := ⟨n1 - 1, by omega⟩
    obtain ⟨n2, rfl⟩ : ∃ z, n2 = z + 1 := ⟨n2 - 1, by omega⟩
    have hl4 := hH.1
    obtain ⟨M1, e1⟩ := vbC hfu hH (x := nI i) (Or.inr ⟨i, by omega, rfl⟩) hm
    obtain ⟨S1, e2⟩ := vbR hfu hH (x := nI i) (Or.inr ⟨i, by omega, rfl⟩) hm
    have f1 : xfr wr_X4_votersBy M M1 := fr_X4_votersBy _ _ _ _ _ _ _ e1
    have f2 : xfr wr_X12_votersBy S S1 := fr_X12_votersBy _ _ _ _ _ e2
    have hH1 : LH fu ln M1 S1 := rel_fr (P := LH fu ln) (LH_m fu ln) hH f1 f2 (by decide) (by decide)
    have g := fun acc => ih (i + 1) n1 n2 acc M1 S1 (by omega) (by omega) (by omega) hH1 (fun j => (f2 11 j rfl).trans (h11 j))
    rw [F_X4_agreeing_b5, F_X12_agree_b19, hH.2.1, hH.2.2.1, if_neg (show ¬ nI ln ≤ nI i from nI_ge (by omega) (by omega)), if_neg (show ¬ nI ln ≤ nI i from nI_ge (by omega) (by omega)), e1, e2]
    simp only [Option.bind_some, F_X4_agreeing_b40, F_X12_agree_b54, add1, or0]
    rw [show (5 : Int32) * nI m + 4 = nI (m * 5 + 4) from cnt5a m 4, show nI (m * 5) + 4 = nI (m * 5 + 4) from nI_add _ 4, if_neg (idx_no (show m * 5 + 4 < 30 by omega) (by decide)), nI_clamp (by omega), at_ok (show m * 5 + 4 < 30 by omega) (by decide), (hH1.2.2.2.2.2 (m * 5 + 4) (by omega)).1, bit_eq (show i ≤ 30 by omega)]
    by_cases z : vot fu S m (nI i) = S1 11 (m * 5 + 4)
    · rw [if_pos z, if_pos z]
      exact g _
    · rw [if_neg z, if_neg z]
      exact g _
theorem op_agree (hfu : 70000 ≤ fu) (x1 : Int32) (hN : RN C R) (hY : RY fu C R) : ∃ v C' R', F_X11_agree fu x1 C = some (v, C') ∧ F_X12_agree fu x1 R = some (v, R') := by
  obtain ⟨lv, on, sn, ln, mn, tn, tl, kn, ⟨b1, b2, b3, b4, b5, b6, b7, b8, b9⟩, ⟨c1, c2, c3, c4, c5, c6, c7, c8⟩, ⟨r1, r2, r3, r4, r5, r6, r7, r8⟩⟩ := hN
  obtain ⟨ln', mn', hH, hm, y32, yu, yo, yv⟩ := hY
  unfold F_X11_agree F_X12_agree F_X4_agreeing
  rw [mach_eq (C := C) (R := xset R 0 0 0) b6 c5 r5]
  by_cases h1 : P_X5_isMachine x1 C = 0
  · rw [if_pos h1, if_pos h1]
    exact ⟨_, _, _, rfl, rfl⟩
  obtain ⟨m, hmm, rfl⟩ := Classical.not_not.mp fun z => h1 ((mach0 b6 c5).mpr z)
  have hl4 := hH.1
  obtain ⟨v, M', S', e1, e2⟩ := ag_loop (R := R) hfu (show m < 6 by omega) ln' 0 fu fu 0 C (xset R 0 0 0) (by omega) (by omega) (by omega) hH (fun _ => rfl)
  rw [if_neg h1, if_neg h1, cnt5c, show F_X4_agreeing_b5 fu 22 30 (nI (m * 5)) fu 0 0 C = _ from e1, show F_X12_agree_b19 fu (nI m) fu 0 0 (xset R 0 0 0) = _ from e2]
  exact ⟨v, M', S', rfl, rfl⟩
end LAWOPS2
