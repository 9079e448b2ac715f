section TAKE
variable {C R : xM}
theorem RS.show {c w : Nat} (hc : c < 96) (hw : w ≤ 999) (hS : RS C R) : RS (xset C 26 c (nI w)) (xset R 12 c (nI w)) := by
  obtain ⟨s1, s2, s3⟩ := hS
  refine ⟨fun k hk => ?_, s2, s3⟩
  by_cases e : k = c
  · subst e
    exact ⟨by simp [xset], w, hw, by simp [xset]⟩
  · obtain ⟨a1, w, hw, a2⟩ := s1 k hk
    exact ⟨by simp [xset, e, a1], w, hw, by simp [xset, e, a2]⟩
theorem tk_loop {m lv : Nat} (hm : m < 6) (hlv : lv ≤ 16) (fu : Nat) (y2 x2 : Int32) : ∀ (k i : Nat) (C R : xM) (n1 n2 : Nat), C 1 0 = nI lv → R 0 1 = nI lv → RS C R → i + k = lv → k < n1 → k < n2 →
    ∃ C' R', F_X5_takeRecounts_b11 fu (nI m) n1 y2 (nI i) C = some (y2, C') ∧ F_X12_take_b23 fu (nI m) n2 x2 (nI i) R = some (P_J6_bitCount_0f7a4 x2 R, R') ∧ RS C' R' := by
  intro k
  induction k with
  | zero =>
    intro i C R n1 n2 c1 r1 hS hi hn1 hn2
    obtain ⟨n1, rfl⟩ : ∃ z, n1 = z + 1 := ⟨n1 - 1, by omega⟩
    obtain ⟨n2, rfl⟩ : ∃ z, n2 = z + 1 := ⟨n2 - 1, by omega⟩
    rw [F_X5_takeRecounts_b11, F_X12_take_b23, c1, r1]
    have e : nI lv ≤ nI i := nI_le (by omega) (by omega)
    rw [if_pos e, if_pos e]
    exact ⟨_, _, rfl, rfl, hS⟩
  | succ k ih =>
    intro i C R n1 n2 c1 r1 hS hi hn1 hn2
    obtain ⟨n1, rfl⟩ : ∃ z, n1 = z + 1 := ⟨n1 - 1, by omega⟩
    obtain ⟨n2, rfl⟩ : ∃ z, n2 = z + 1 := ⟨n2 - 1, by omega⟩
    have e : ¬ nI lv ≤ nI i := nI_ge (by omega) (by omega)
    have hc : m * 16 + i < 96 := by omega
    obtain ⟨w, hw, l1, l2⟩ := lat_eq (C := C) (R := R) hm (show i < 16 by omega) hS
    rw [F_X5_takeRecounts_b11, F_X12_take_b23, c1, r1, if_neg e, if_neg e]
    simp only [P_X5_counter, cnt1, cnt2, l1, l2, Option.bind_some, put_ok hc (show 96 ≤ 1000000 by decide), if_neg (idx_no2 hc (show 96 ≤ 1000000 by decide)), nI_clamp (show m * 16 + i < 2 ^ 31 by omega), add1]
    exact ih (i + 1) _ _ n1 n2 c1 r1 (hS.show hc hw) (by omega) (by omega) (by omega)
theorem op_take {fu : Nat} (hfu : 70000 ≤ fu) (x1 : Int32) (hN : RN C R) (hS : RS C R) : ∃ v C' R', F_X11_take fu x1 C = some (v, C') ∧ F_X12_take fu x1 R = some (v, R') ∧ RS C' R' := by
  obtain ⟨lv, on, sn, ln, mn, tn, tl, kn, ⟨b1, b2, b3, b4, b5, b6, -⟩, ⟨c1, c2, c3, c4, c5, -⟩, ⟨r1, r2, r3, r4, r5, -⟩⟩ := hN
  unfold F_X11_take F_X12_take F_X5_takeRecounts F_X5_unlikeShown F_X12_differing
  rw [mach_eq (C := C) (R := xset R 0 0 0) b6 c5 r5]
  by_cases h1 : P_X5_isMachine x1 C = 0
  · exact ⟨-1, C, xset R 0 0 0, by simp [h1], by simp [h1], hS⟩
  obtain ⟨m, hm, rfl⟩ := Classical.not_not.mp fun z => h1 ((mach0 b6 c5).mpr z)
  obtain ⟨v, f1, f2⟩ := df_loop (C := C) (R := xset R 0 0 0) (show m < 6 by omega) b2 c1 r1 hS fu lv 0 0 fu fu (by omega) (by omega) (by omega)
  obtain ⟨C', R', g1, g2, g3⟩ := tk_loop (show m < 6 by omega) b2 fu (P_J6_bitCount_0f7a4 v C) v lv 0 C (xset R 0 0 0) fu fu c1 r1 hS (by omega) (by omega) (by omega)
  rw [nI_0] at f1 f2 g1 g2
  refine ⟨P_J6_bitCount_0f7a4 v C, C', R', ?_, ?_, g3⟩
  · rw [if_neg h1, f1]
    simp only [Option.bind_some]
    rw [g1]
    rfl
  · rw [if_neg h1, f2]
    simp only [Option.bind_some]
    exact g2
end TAKE
