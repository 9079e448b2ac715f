/-! machine -/
section MACH
variable {C R : xM} {fu : Nat}
theorem y22 (M : xM) (j : Nat) (v : Int32) : (xset M 22 j v) 5 1 = M 5 1 := rfl
theorem y24 (M : xM) (j : Nat) (v : Int32) : (xset M 24 j v) 5 1 = M 5 1 := rfl
theorem y25 (M : xM) (j : Nat) (v : Int32) : (xset M 25 j v) 5 1 = M 5 1 := rfl
theorem y11 (M : xM) (j : Nat) (v : Int32) : (xset M 11 j v) 0 32 = M 0 32 := rfl
theorem y32 (M : xM) (v : Int32) : (xset M 0 32 v) 0 32 = v := by simp [xset]
/-- five books -/
def b5 (M : xM) (k m : Nat) (x1 x2 x3 x4 x5 : Int32) : xM := xset (xset (xset (xset (xset M k (m * 5) x1) k (m * 5 + 1) x2) k (m * 5 + 2) x3) k (m * 5 + 3) x4) k (m * 5 + 4) x5
theorem addC {mn : Nat} (hm : mn < 6) (c5 : C 5 1 = nI mn) (x1 x2 x3 x4 x5 : Int32) : F_X5_add_b42 x1 x2 x3 x4 x5 1 C = some (nI mn, xset (xset (xset (b5 C 22 mn x1 x2 x3 x4 x5) 24 mn (-1)) 25 mn 1) 5 1 (nI (mn + 1))) := by
  unfold F_X5_add_b42
  have a2 : nI (mn * 5) + 2 = nI (mn * 5 + 2) := nI_add _ 2
  have a3 : nI (mn * 5) + 3 = nI (mn * 5 + 3) := nI_add _ 3
  have a4 : nI (mn * 5) + 4 = nI (mn * 5 + 4) := nI_add _ 4
  rw [if_neg (show ¬ ((1 : Int32) = 0) by decide), c5, if_pos (show nI mn < 6 from (nI_ltI (b := 6) (by omega) (by decide)).mpr hm), cnt5c, a2, a3, a4, add1, put_ok (show mn * 5 < 30 by omega) (by decide)]
  simp only [Option.bind_some]
  rw [put_ok (show mn * 5 + 1 < 30 by omega) (by decide)]
  simp only [Option.bind_some]
  rw [put_ok (show mn * 5 + 2 < 30 by omega) (by decide)]
  simp only [Option.bind_some]
  rw [put_ok (show mn * 5 + 3 < 30 by omega) (by decide)]
  simp only [Option.bind_some]
  rw [put_ok (show mn * 5 + 4 < 30 by omega) (by decide)]
  simp only [Option.bind_some, y22, c5]
  rw [put_ok hm (by decide)]
  simp only [Option.bind_some, y24, y22, c5]
  rw [put_ok hm (by decide)]
  simp only [Option.bind_some, y25, y24, y22, c5, add1]
  rfl
theorem addR {mn : Nat} (hm : mn < 6) (r5 : R 0 32 = nI mn) (x1 x2 x3 x4 x5 : Int32) (h1 : ¬ P_X12_isNumber x1 (xset R 0 0 0) = 0) (h2 : ¬ P_X12_isNumber x2 (xset R 0 0 0) = 0) (h3 : ¬ P_X12_isNumber x3 (xset R 0 0 0) = 0) (h4 : ¬ P_X12_isNumber x4 (xset R 0 0 0) = 0) (h5 : ¬ P_X12_isNumber x5 (xset R 0 0 0) = 0) : F_X12_machine x1 x2 x3 x4 x5 R = some (nI mn, xset (b5 (xset R 0 0 0) 11 mn x1 x2 x3 x4 x5) 0 32 (nI (mn + 1))) := by
  unfold F_X12_machine
  have y00 : (xset R 0 0 0) 0 32 = nI mn := r5
  have a1 : nI (mn * 5) + 1 = nI (mn * 5 + 1) := nI_add _ 1
  have a2 : nI (mn * 5) + 2 = nI (mn * 5 + 2) := nI_add _ 2
  have a3 : nI (mn * 5) + 3 = nI (mn * 5 + 3) := nI_add _ 3
  have a4 : nI (mn * 5) + 4 = nI (mn * 5 + 4) := nI_add _ 4
  have k0 := nI_clamp (show mn * 5 < 2 ^ 31 by omega)
  have k1 := nI_clamp (show mn * 5 + 1 < 2 ^ 31 by omega)
  have k2 := nI_clamp (show mn * 5 + 2 < 2 ^ 31 by omega)
  have k3 := nI_clamp (show mn * 5 + 3 < 2 ^ 31 by omega)
  have k4 := nI_clamp (show mn * 5 + 4 < 2 ^ 31 by omega)
  rw [y00, if_neg (show ¬ nI mn = 6 from fun z => by have := (nI_eq (a := mn) (b := 6) (by omega) (by decide)).mp z; omega), if_neg h1, if_neg h2, if_neg h3, if_neg h4, if_neg h5]
  simp only [y11, y32, y00, a1, a2, a3, a4, cnt5b, k0, k1, k2, k3, k4, add1]
  rw [if_neg (idx_no2 (show mn * 5 < 30 by omega) (by decide)), if_neg (idx_no2 (show mn * 5 + 1 < 30 by omega) (by decide)), if_neg (idx_no2 (show mn * 5 + 2 < 30 by omega) (by decide)), if_neg (idx_no2 (show mn * 5 + 3 < 30 by omega) (by decide)), if_neg (idx_no2 (show mn * 5 + 4 < 30 by omega) (by decide)), sub1 (by omega), Nat.add_sub_cancel]
  rfl
theorem b5_at (M : xM) (k m : Nat) (x1 x2 x3 x4 x5 : Int32) (j : Nat) : (b5 M k m x1 x2 x3 x4 x5) k j = if j = m * 5 + 4 then x5 else if j = m * 5 + 3 then x4 else if j = m * 5 + 2 then x3 else if j = m * 5 + 1 then x2 else if j = m * 5 then x1 else M k j := by
  unfold b5 xset
  simp only [true_and]
theorem b5_ne (M : xM) (k m : Nat) (x1 x2 x3 x4 x5 : Int32) {a : Nat} (j : Nat) (h : a ≠ k) : (b5 M k m x1 x2 x3 x4 x5) a j = M a j := by
  unfold b5 xset
  simp only [h, false_and, if_false]
theorem op_machine (hfu : 70000 ≤ fu) (x1 x2 x3 x4 x5 : Int32) (hN : RN C R) (hC : RC C R) (hY : RY fu C R) : ∃ v C' R', F_X11_machine fu x1 x2 x3 x4 x5 C = some (v, C') ∧ F_X12_machine x1 x2 x3 x4 x5 R = some (v, R') ∧ RN C' R' ∧ RC C' R' ∧ RY fu C' R' := by
  have hN0 := hN
  have hC0 := hC
  have hY0 := hY
  obtain ⟨lv, on, sn, ln, mn, tn, tl, kn, ⟨b1, b2, b3, b4, b5, b6, b7, b8, b9⟩, ⟨c1, c2, c3, c4, c5, c6, c7, c8⟩, ⟨r1, r2, r3, r4, r5, r6, r7, r8⟩⟩ := hN
  have neg : (F_X5_add x1 x2 x3 x4 x5 C = some (-1, C)) → F_X12_machine x1 x2 x3 x4 x5 R = some (-1, xset R 0 0 0) → ∃ v C' R', F_X11_machine fu x1 x2 x3 x4 x5 C = some (v, C') ∧ F_X12_machine x1 x2 x3 x4 x5 R = some (v, R') ∧ RN C' R' ∧ RC C' R' ∧ RY fu C' R' := by
    intro e1 e2
    refine ⟨-1, C, xset R 0 0 0, ?_, e2, hN0, hC0, hY0⟩
    unfold F_X11_machine F_X11_settleVoters
    rw [e1]
    simp only [Option.bind_some]
    rw [if_pos ((mach0 b6 c5).mpr (by
      rintro ⟨j, hj, e⟩
      exact nIm1 (by omega) e.symm))]
    rfl
  have nb : ∀ x, P_X12_isNumber x (xset R 0 0 0) = P_X5_isNumber x C := fun x => number_eq (N := C)
  have b42 : F_X5_add_b41 x1 x2 x3 x4 x5 C = some (-1, C) := by
    unfold F_X5_add_b41 F_X5_add_b42
    rw [if_pos rfl]
  have six : ∀ (o : Option (Int32 × xM)), o = some (-1, xset R 0 0 0) → (if (xset R 0 0 0) 0 32 = 6 then some (-1, xset R 0 0 0) else o) = some (-1, xset R 0 0 0) := fun o ho => by
    rw [ho]
    split <;> rfl
  by_cases n1 : P_X5_isNumber x1 C = 0
  · refine neg (by unfold F_X5_add; rw [if_pos n1, b42]) ?_
    unfold F_X12_machine
    exact six _ (by rw [nb, if_pos n1])
  by_cases n2 : P_X5_isNumber x2 C = 0
  · refine neg (by unfold F_X5_add; rw [if_neg n1, if_pos n2, b42]) ?_
    unfold F_X12_machine
    exact six _ (by rw [nb, nb, if_neg n1, if_pos n2])
  by_cases n3 : P_X5_isNumber x3 C = 0
  · refine neg (by unfold F_X5_add; rw [if_neg n1, if_neg n2, if_pos n3, b42]) ?_
    unfold F_X12_machine
    exact six _ (by rw [nb, nb, nb, if_neg n1, if_neg n2, if_pos n3])
  by_cases n4 : P_X5_isNumber x4 C = 0
  · refine neg (by unfold F_X5_add; rw [if_neg n1, if_neg n2, if_neg n3, if_pos n4, b42]) ?_
    unfold F_X12_machine
    exact six _ (by rw [nb, nb, nb, nb, if_neg n1, if_neg n2, if_neg n3, if_pos n4])
  by_cases n5 : P_X5_isNumber x5 C = 0
  · refine neg (by unfold F_X5_add; rw [if_neg n1, if_neg n2, if_neg n3, if_neg n4, if_pos n5, b42]) ?_
    unfold F_X12_machine
    exact six _ (by rw [nb, nb, nb, nb, nb, if_neg n1, if_neg n2, if_neg n3, if_neg n4, if_pos n5])
  have eadd : F_X5_add x1 x2 x3 x4 x5 C = F_X5_add_b42 x1 x2 x3 x4 x5 1 C := by
    unfold F_X5_add
    rw [if_neg n1, if_neg n2, if_neg n3, if_neg n4, if_neg n5]
  by_cases h6 : mn = 6
  · subst h6
    refine neg ?_ ?_
    · rw [eadd]
      unfold F_X5_add_b42
      rw [if_neg (show ¬ ((1 : Int32) = 0) by decide), c5, if_neg (show ¬ nI 6 < 6 by decide)]
    · unfold F_X12_machine
      rw [if_pos (show (xset R 0 0 0) 0 32 = 6 from r5)]
  have hm : mn < 6 := by omega
  have e1 := addC hm c5 x1 x2 x3 x4 x5
  have e2 := addR hm r5 x1 x2 x3 x4 x5 (by rw [nb]; exact n1) (by rw [nb]; exact n2) (by rw [nb]; exact n3) (by rw [nb]; exact n4) (by rw [nb]; exact n5)
  have iN : ∀ x, ¬ P_X5_isNumber x C = 0 → ∃ v : Nat, v ≤ 999 ∧ x = nI v := fun x hx => by
    obtain ⟨v, hv, e⟩ := Classical.not_not.mp fun z => hx (number0.mpr z)
    exact ⟨v, by omega, e⟩
  obtain ⟨ln', mn', ⟨h1, h2, h3, hL, hG, hK⟩, hmm, z32, yu, yo, yv⟩ := hY
  have el : ln' = ln := (nI_eq (by omega) (by omega)).mp (h2.symm.trans c4)
  have em : mn' = mn := (nI_eq (by omega) (by omega)).mp (z32.symm.trans r5)
  subst el em
  generalize hX : xset (xset (xset (_root_.Jvm.Pilot.CLeverCurtainLaw_law_r1437_648b17.b5 C 22 mn' x1 x2 x3 x4 x5) 24 mn' (-1)) 25 mn' 1) 5 1 (nI (mn' + 1)) = X at e1
  generalize hS : xset (_root_.Jvm.Pilot.CLeverCurtainLaw_law_r1437_648b17.b5 (xset R 0 0 0) 11 mn' x1 x2 x3 x4 x5) 0 32 (nI (mn' + 1)) = S at e2
  have hx : ∀ a j, a ≠ 22 → a ≠ 24 → a ≠ 25 → ¬ (a = 5 ∧ j = 1) → X a j = C a j := fun a j q1 q2 q3 q4 => by
    rw [← hX, ← b5_ne C 22 mn' x1 x2 x3 x4 x5 j q1]
    unfold xset
    rw [if_neg q4, if_neg (fun z => q3 z.1), if_neg (fun z => q2 z.1)]
  have hs : ∀ a j, a ≠ 11 → ¬ (a = 0 ∧ j = 32) → ¬ (a = 0 ∧ j = 0) → S a j = R a j := fun a j q1 q2 q3 => by
    rw [← hS, show (xset (_root_.Jvm.Pilot.CLeverCurtainLaw_law_r1437_648b17.b5 (xset R 0 0 0) 11 mn' x1 x2 x3 x4 x5) 0 32 (nI (mn' + 1))) a j = (_root_.Jvm.Pilot.CLeverCurtainLaw_law_r1437_648b17.b5 (xset R 0 0 0) 11 mn' x1 x2 x3 x4 x5) a j by unfold xset; rw [if_neg q2], b5_ne _ 11 mn' x1 x2 x3 x4 x5 j q1]
    unfold xset
    rw [if_neg q3]
  have x22 : ∀ j, X 22 j = if j = mn' * 5 + 4 then x5 else if j = mn' * 5 + 3 then x4 else if j = mn' * 5 + 2 then x3 else if j = mn' * 5 + 1 then x2 else if j = mn' * 5 then x1 else C 22 j := fun j => by
    rw [← hX, ← b5_at C 22 mn' x1 x2 x3 x4 x5 j]
    rfl
  have s11 : ∀ j, S 11 j = if j = mn' * 5 + 4 then x5 else if j = mn' * 5 + 3 then x4 else if j = mn' * 5 + 2 then x3 else if j = mn' * 5 + 1 then x2 else if j = mn' * 5 then x1 else R 11 j := fun j => by
    rw [← hS, ← show (xset R 0 0 0) 11 j = R 11 j from rfl, ← b5_at (xset R 0 0 0) 11 mn' x1 x2 x3 x4 x5 j]
    rfl
  have hH : LH fu ln' X S := by
    refine ⟨h1, (hx 3 0 (by decide) (by decide) (by decide) (by decide)).trans h2, (hs 0 16 (by decide) (by decide) (by decide)).trans h3, ⟨fun k hk => ?_, fun l hl => ?_⟩, fun l hl => ?_, fun k hk => ?_⟩
    · rw [hx 18 k (by decide) (by decide) (by decide) (by simp), hs 8 k (by decide) (by simp) (by simp)]
      exact hL.1 k hk
    · rw [hx 19 l (by decide) (by decide) (by decide) (by simp), hs 9 l (by decide) (by simp) (by simp)]
      exact hL.2 l hl
    · have et : tx S l = tx R l := by
        funext i
        unfold tx
        rw [hs 8 _ (by decide) (by simp) (by simp)]
      rw [hs 9 l (by decide) (by simp) (by simp), et]
      exact hG l hl
    · rw [x22, s11, (hK k hk).1]
      refine ⟨rfl, ?_⟩
      split
      · exact iN _ n5
      · split
        · exact iN _ n4
        · split
          · exact iN _ n3
          · split
            · exact iN _ n2
            · split
              · exact iN _ n1
              · exact (hK k hk).2
  have x51 : X 5 1 = nI (mn' + 1) := by
    rw [← hX]
    simp [xset]
  have s32 : S 0 32 = nI (mn' + 1) := by
    rw [← hS]
    simp [xset]
  have x31 : X 3 1 = R 0 17 := (hx 3 1 (by decide) (by decide) (by decide) (by decide)).trans yu
  have s17 : S 0 17 = R 0 17 := hs 0 17 (by decide) (by decide) (by decide)
  obtain ⟨X1, g1, g2⟩ := settle_ok (R := S) hfu hH (show mn' + 1 ≤ 6 by omega) x51 (show mn' < mn' + 1 by omega) x31 yo
  have hH1 : LH fu ln' X1 S := rel_fr (P := LH fu ln') (wr := []) (LH_m fu ln') hH g2 xfr.rf (by decide) (by decide)
  have hx1 : ∀ a j, a ≠ 22 → a ≠ 23 → a ≠ 24 → a ≠ 25 → ¬ (a = 5 ∧ j = 1) → xin wr_X4_votersBy a j = false → (xset X1 23 mn' (vot fu S mn' (R 0 17))) a j = C a j := fun a j q1 q2 q3 q4 q5 q6 => by
    rw [← hx a j q1 q3 q4 q5, ← g2 a j q6]
    unfold xset
    rw [if_neg (fun z => q2 z.1)]
  refine ⟨nI mn', xset X1 23 mn' (vot fu S mn' (R 0 17)), S, ?_, e2, ?_, ?_, ?_⟩
  · unfold F_X11_machine
    rw [eadd, e1]
    simp only [Option.bind_some]
    rw [g1]
    rfl
  · refine ⟨lv, on, sn, ln', mn' + 1, tn, tl, kn, ⟨b1, b2, b3, b4, b5, by omega, b7, b8, b9⟩, ⟨?_, ?_, ?_, ?_, ?_, ?_, ?_, ?_⟩, ⟨?_, ?_, ?_, ?_, s32, ?_, ?_, ?_⟩⟩
    · exact (hx1 1 0 (by decide) (by decide) (by decide) (by decide) (by decide) rfl).trans c1
    · exact (hx1 1 1 (by decide) (by decide) (by decide) (by decide) (by decide) rfl).trans c2
    · exact (hx1 1 2 (by decide) (by decide) (by decide) (by decide) (by decide) rfl).trans c3
    · exact (hx1 3 0 (by decide) (by decide) (by decide) (by decide) (by decide) rfl).trans c4
    · exact (g2 5 1 rfl).trans x51
    · exact (hx1 8 2 (by decide) (by decide) (by decide) (by decide) (by decide) rfl).trans c6
    · exact (hx1 2 1 (by decide) (by decide) (by decide) (by decide) (by decide) rfl).trans c7
    · exact (hx1 9 0 (by decide) (by decide) (by decide) (by decide) (by decide) rfl).trans c8
    · exact (hs 0 1 (by decide) (by decide) (by decide)).trans r1
    · exact (hs 0 7 (by decide) (by decide) (by decide)).trans r2
    · exact (hs 0 8 (by decide) (by decide) (by decide)).trans r3
    · exact (hs 0 16 (by decide) (by decide) (by decide)).trans r4
    · exact (hs 0 49 (by decide) (by decide) (by decide)).trans r6
    · exact (hs 0 15 (by decide) (by decide) (by decide)).trans r7
    · exact (hs 0 58 (by decide) (by decide) (by decide)).trans r8
  · obtain ⟨n, hn, er, q1, q2⟩ := hC
    have en : n = mn' := (nI_eq (by omega) (by omega)).mp (er.symm.trans r5)
    subst en
    have x24 : ∀ m, (xset X1 23 n (vot fu S n (R 0 17))) 24 m = if m = n then -1 else C 24 m := fun m => by
      rw [show (xset X1 23 n (vot fu S n (R 0 17))) 24 m = X 24 m from g2 24 m rfl, ← hX, ← b5_ne C 22 n x1 x2 x3 x4 x5 (a := 24) m (by decide)]
      simp [xset]
    have x25 : ∀ m, (xset X1 23 n (vot fu S n (R 0 17))) 25 m = if m = n then 1 else C 25 m := fun m => by
      rw [show (xset X1 23 n (vot fu S n (R 0 17))) 25 m = X 25 m from g2 25 m rfl, ← hX, ← b5_ne C 22 n x1 x2 x3 x4 x5 (a := 25) m (by decide)]
      simp [xset]
    refine ⟨n + 1, by omega, s32, fun m hm1 => ?_, fun m hm1 hm2 => ?_⟩
    · rw [x24, x25, hs 13 m (by decide) (by simp) (by simp), hs 14 m (by decide) (by simp) (by simp)]
      by_cases e : m = n
      · subst e
        obtain ⟨a1, a2⟩ := q2 m (Nat.le_refl m) hm
        rw [if_pos rfl, if_pos rfl, a1, a2]
        exact ⟨rfl, rfl, 1, by decide, rfl⟩
      · rw [if_neg e, if_neg e]
        exact q1 m (by omega)
    · rw [hs 13 m (by decide) (by simp) (by simp), hs 14 m (by decide) (by simp) (by simp)]
      exact q2 m (by omega) hm2
  · refine ⟨ln', mn' + 1, hH1, by omega, s32, ?_, by rw [s17]; exact yo, fun m hmm' => ?_⟩
    · rw [s17]
      exact (g2 3 1 rfl).trans x31
    · rw [s17]
      by_cases e : m = mn'
      · subst e
        simp [xset]
      · have e3 : (xset X1 23 mn' (vot fu S mn' (R 0 17))) 23 m = C 23 m := by
          rw [← hx 23 m (by decide) (by decide) (by decide) (by simp), ← g2 23 m rfl]
          simp [xset, e]
        rw [e3, yv m (by omega)]
        have hm5 : ∀ j, j < 5 → S 11 (m * 5 + j) = R 11 (m * 5 + j) := fun j hj => by
          rw [s11, if_neg (by omega), if_neg (by omega), if_neg (by omega), if_neg (by omega), if_neg (by omega)]
        unfold vot
        by_cases eo : R 0 17 = -1
        · rw [if_pos eo, if_pos eo]
          exact (hm5 0 (by omega)).symm
        · rw [if_neg eo, if_neg eo]
          obtain ⟨l, hl, el⟩ := yo.resolve_left eo
          obtain ⟨n, hn, e9, ew⟩ := hG l hl
          have et : tx S l = tx R l := by
            funext i
            unfold tx
            rw [hs 8 _ (by decide) (by simp) (by simp)]
          rw [el, nI_clamp (by omega), hs 9 l (by decide) (by simp) (by simp), e9, nI_clamp (by omega), et]
          congr 2
          have hCT := C0_ct hn (fun i hi => (tx_ok hL (show l < 4 by omega) (show i < 120 by omega)).1)
          obtain ⟨v, M', a1, a2, a3⟩ := cls_ok hfu (hCT (bks R m))
          have k1 := a3 (bks R m) (fun _ _ => rfl) ew (bks_bnd hK (by omega))
          have k2 := a3 (bks S m) (fun j hj => (hm5 j hj).symm) ew (bks_bnd hH.2.2.2.2.2 (by omega))
          rw [← k1, ← k2]
end MACH
