/-! fault, law, use, machine, voters, agree -/
def tp (R : xM) : Nat → Nat := fun i => (R 7 i &&& 255).toBitVec.toNat
section LAWOPS
variable {C R : xM} {fu ln : Nat}
theorem tp_ok (hT : RT C R) {i : Nat} (hi : i < 120) : tp R i < 256 ∧ C 17 i = nI (tp R i) ∧ R 7 i = sb (tp R i) := by
  obtain ⟨x, hx, e1, e2⟩ := hT i hi
  have e : tp R i = x := by
    unfold tp
    rw [e2, pk_tb hx]
  rw [e]
  exact ⟨hx, e1, e2⟩
theorem fi_ok (hfu : 70000 ≤ fu) (hT : RT C R) {L : Nat} (hL : L ≤ 120) (c : C 2 1 = nI L) : ∃ C' R', F_X4_faultIn fu C = some (wf fu L (tp R), C') ∧ F_X12_goThrough fu 7 120 0 (nI L) R = some R' ∧ R' 0 21 = wf fu L (tp R) := by
  obtain ⟨C1, f1, g1, g2⟩ := lay_ok (C := C) (r := 17) (n1 := 120) (b := 0) (N := L) (by decide) (by decide) hL (by omega) (by decide) hfu
  have hC1 : CT C1 L (tp R) := ⟨hL, g1, fun i hi => ⟨(tp_ok hT (by omega)).1, by
    rw [g2 i hi, Nat.zero_add, (tp_ok hT (show i < 120 by omega)).2.1]⟩⟩
  obtain ⟨v, M', a1, a2, _⟩ := cls_ok hfu hC1
  have hR : RX' (xset (xset (xset R 0 14 (nI 7)) 0 18 (nI 0)) 0 19 (nI L)) L (tp R) 7 0 120 := by
    refine ⟨hL, fun i hi => (tp_ok hT (by omega)).1, by decide, by decide, rfl, by omega, by decide, rfl, rfl, rfl, fun i hi => ?_⟩
    rw [Nat.zero_add]
    exact (tp_ok hT (show i < 120 by omega)).2.2
  obtain ⟨R', b1, b2, _⟩ := ref_ok hfu hR
  refine ⟨M', R', ?_, b1, b2⟩
  unfold F_X4_faultIn
  rw [c, show F_X3_layText fu 17 120 0 (nI L) C = some C1 from f1]
  simp only [Option.bind_some]
  rw [a1]
  simp only [Option.bind_some]
  rw [a2]
theorem op_fault (hfu : 70000 ≤ fu) (hN : RN C R) (hT : RT C R) : ∃ v C' R', F_X11_fault fu C = some (v, C') ∧ F_X12_fault fu R = some (v, R') := by
  obtain ⟨lv, on, sn, ln, mn, tn, tl, kn, ⟨b1, b2, b3, b4, b5, b6, b7, b8, b9⟩, ⟨c1, c2, c3, c4, c5, c6, c7, c8⟩, ⟨r1, r2, r3, r4, r5, r6, r7, r8⟩⟩ := hN
  obtain ⟨C', R', e1, e2, e3⟩ := fi_ok (C := C) (R := xset R 0 0 0) hfu hT b8 c7
  unfold F_X11_fault F_X12_fault
  rw [e1, show (xset R 0 0 0) 0 15 = nI tl from r7, e2]
  simp only [Option.bind_some]
  exact ⟨_, _, _, rfl, by rw [e3]⟩
theorem sbn : ∀ x, x < 256 → vp_nar .byte (sb x) = sb x := by
  intro x hx
  rw [vp_nar_byte]
  have : ∀ x, x < 256 → (sb x).toInt8.toInt32 = sb x := by decide +kernel
  exact this x hx
theorem lawR_loop {L b : Nat} (hl : ln < 4) (hL : L ≤ 120) (hb : b = ln * 120) (fu : Nat) (hT : ∀ i, i < 120 → ∃ x : Nat, x < 256 ∧ R 7 i = sb x) : ∀ k i n M, i + k = L → k < n → (∀ a j, a ≠ 8 → M a j = R a j) → R 0 15 = nI L → R 0 16 = nI ln → (∀ k, M 8 k = if b ≤ k ∧ k < b + i then R 7 (k - b) else R 8 k) →
    ∃ M2, F_X12_law_b40 fu n (nI i) M = some (nI ln, xset (xset (xset M2 9 ln (nI L)) 0 15 0) 0 16 (nI (ln + 1))) ∧ (∀ a j, a ≠ 8 → M2 a j = R a j) ∧ ∀ k, M2 8 k = if b ≤ k ∧ k < b + L then R 7 (k - b) else R 8 k := by
  intro k
  induction k with
  | zero =>
    intro i n M hi hn hM r15 r16 h8
    obtain ⟨n, rfl⟩ : ∃ z, n = z + 1 := ⟨n - 1, by omega⟩
    obtain rfl : i = L := by omega
    have m15 : M 0 15 = nI i := (hM 0 15 (by decide)).trans r15
    have m16 : M 0 16 = nI ln := (hM 0 16 (by decide)).trans r16
    rw [F_X12_law_b40, m15, m16, if_pos (nI_le (Nat.le_refl i) (by omega)), if_neg (idx_no hl (by decide)), nI_clamp (by omega)]
    rw [show (xset (xset M 9 ln (nI i)) 0 15 0) 0 16 = nI ln from m16, add1]
    rw [show (xset (xset (xset M 9 ln (nI i)) 0 15 0) 0 16 (nI (ln + 1))) 0 16 = nI (ln + 1) by simp [xset], sub1 (by omega), Nat.add_sub_cancel]
    exact ⟨M, rfl, hM, h8⟩
  | succ k ih =>
    intro i n M hi hn hM r15 r16 h8
    obtain ⟨n, rfl⟩ : ∃ z, n = z + 1 := ⟨n - 1, by omega⟩
    have m15 : M 0 15 = nI L := (hM 0 15 (by decide)).trans r15
    have m16 : M 0 16 = nI ln := (hM 0 16 (by decide)).trans r16
    obtain ⟨x, hx, ex⟩ := hT i (by omega)
    rw [F_X12_law_b40, m15, m16, if_neg (show ¬ nI L ≤ nI i from nI_ge (by omega) (by omega)), if_neg (idx_no (show i < 120 by omega) (by decide)), show (120 : Int32) * nI ln + nI i = nI (ln * 120 + i) by rw [show (120 : Int32) = nI 120 from rfl, pk_mul, nI_add, Nat.mul_comm], if_neg (idx_no (show ln * 120 + i < 480 by omega) (by decide)), nI_clamp (show i < 2 ^ 31 by omega), nI_clamp (show ln * 120 + i < 2 ^ 31 by omega), hM 7 i (by decide), ex, sbn x hx, add1]
    refine ih (i + 1) n _ (by omega) (by omega) (fun a j ha => ?_) r15 r16 (fun q => ?_)
    · rw [← hM a j ha]
      unfold xset
      rw [if_neg (fun z => ha z.1)]
    · by_cases e : q = ln * 120 + i
      · subst e
        rw [if_pos ⟨by omega, by omega⟩, hb, Nat.add_sub_cancel_left, ex]
        simp [xset]
      · rw [show (xset M 8 (ln * 120 + i) (sb x)) 8 q = M 8 q by simp [xset, e], h8 q]
        by_cases z : b ≤ q ∧ q < b + i
        · rw [if_pos z, if_pos ⟨z.1, by omega⟩]
        · rw [if_neg z, if_neg (fun y => z ⟨y.1, by omega⟩)]
theorem vot_eq {R' : xM} (h4 : ln ≤ 4) (h11 : ∀ j, R' 11 j = R 11 j) (h9 : ∀ l, l < ln → R' 9 l = R 9 l) (ht : ∀ l, l < ln → tx R' l = tx R l) {x : Int32} (hx : okL x ln) (m : Nat) : vot fu R' m x = vot fu R m x := by
  have hb : bks R' m = bks R m := by
    funext j
    exact h11 _
  unfold vot
  rcases hx with rfl | ⟨l, hl, rfl⟩
  · rw [if_pos rfl, if_pos rfl, h11]
  · rw [if_neg (nIm1 (by omega)), if_neg (nIm1 (by omega)), nI_clamp (by omega), h9 l hl, ht l hl, hb]
theorem op_law (hfu : 70000 ≤ fu) (hN : RN C R) (hT : RT C R) (hY : RY fu C R) : ∃ v C' R', F_X11_law fu C = some (v, C') ∧ F_X12_law fu R = some (v, R') ∧ RN C' R' ∧ RY fu C' R' := by
  have hN0 := hN
  have hY0 := hY
  obtain ⟨lv, on, sn, ln, mn, tn, tl, kn, ⟨b1, b2, b3, b4, b5, b6, b7, b8, b9⟩, ⟨c1, c2, c3, c4, c5, c6, c7, c8⟩, ⟨r1, r2, r3, r4, r5, r6, r7, r8⟩⟩ := hN
  unfold F_X11_law F_X12_law F_X4_add
  rw [c4, show (xset R 0 0 0) 0 16 = nI ln from r4, show (xset R 0 0 0) 0 15 = nI tl from r7]
  by_cases h4 : ln = 4
  · subst h4
    rw [if_pos (show (4 : Int32) ≤ nI 4 by decide), if_pos (show nI 4 = 4 by decide)]
    exact ⟨-1, C, xset R 0 0 0, rfl, rfl, hN0, hY0⟩
  have hl4 : ln < 4 := by omega
  rw [if_neg (show ¬ (4 : Int32) ≤ nI ln from nI_ge (b := 4) hl4 (by decide)), if_neg (show ¬ nI ln = 4 from fun z => h4 ((nI_eq (b := 4) (by omega) (by decide)).mp z))]
  obtain ⟨C1, R1, e1, e2, e3⟩ := fi_ok (C := C) (R := xset R 0 0 0) hfu hT b8 c7
  have fc : xfr wr_X4_faultIn C C1 := fr_X4_faultIn _ _ _ e1
  have fr : xfr wr_X12_goThrough (xset R 0 0 0) R1 := fr_X12_goThrough _ _ _ _ _ _ _ e2
  rw [e1, e2]
  simp only [Option.bind_some]
  rw [e3]
  have hw0 : wf fu tl (tp (xset R 0 0 0)) = wf fu tl (tp R) := rfl
  rw [hw0] at e3 ⊢
  have fr0 : xfr wr_X12_fault R R1 := fun k j h => (fr k j (xin_sub (by decide) h)).trans (by
    unfold xset
    rw [if_neg]
    rintro ⟨rfl, rfl⟩
    exact absurd h (by decide))
  have hN1 : RN C1 R1 := rel_fr RN_m hN0 fc fr0 (by decide) (by decide)
  have hY1 : RY fu C1 R1 := rel_fr (P := RY fu) (RY_m fu) hY0 fc fr0 (by decide) (by decide)
  by_cases hw : wf fu tl (tp R) = -1
  rotate_left
  · rw [if_neg hw, if_neg hw]
    exact ⟨-1, C1, R1, rfl, rfl, hN1, hY1⟩
  rw [if_pos hw, if_pos hw]
  have hT1 : RT C1 R1 := rel_fr RT_m hT fc fr0 (by decide) (by decide)
  have q30 : C1 3 0 = nI ln := (fc 3 0 rfl).trans c4
  have q21 : C1 2 1 = nI tl := (fc 2 1 rfl).trans c7
  rw [q30, show nI ln * 120 = nI (ln * 120) by rw [show (120 : Int32) = nI 120 from rfl, pk_mul]]
  obtain ⟨C2, f2, g2⟩ := cpy_ok (C := C1) (r := 18) (n1 := 480) (b := ln * 120) (N := tl) (by decide) (by decide) b8 (by omega) (by decide) q21 hfu
  have fc2 : xfr (wr_X9_copyTo 18) C1 C2 := fr_X9_copyTo _ _ _ _ _ _ f2
  rw [f2]
  simp only [Option.bind_some]
  rw [show C2 3 0 = nI ln from (fc2 3 0 rfl).trans q30, show C2 2 1 = nI tl from (fc2 2 1 rfl).trans q21, put_ok hl4 (by decide)]
  simp only [Option.bind_some]
  rw [show (xset (xset C2 19 ln (nI tl)) 2 1 0) 3 0 = nI ln from (fc2 3 0 rfl).trans q30, add1]
  obtain ⟨M2, f3, g3, g4⟩ := lawR_loop (R := R1) hl4 b8 rfl fu (fun i hi => by
    obtain ⟨x, hx, _, ex⟩ := hT1 i hi
    exact ⟨x, hx, ex⟩) tl 0 fu R1 (by omega) (by omega) (fun _ _ _ => rfl) ((fr0 0 15 rfl).trans r7) ((fr0 0 16 rfl).trans r4) (fun k => by rw [if_neg (fun z => by omega)])
  rw [show F_X12_law_b40 fu fu 0 R1 = _ from f3]
  have hc : ∀ a j, a ≠ 18 → a ≠ 19 → ¬ (a = 2 ∧ j = 1) → ¬ (a = 3 ∧ j = 0) → (xset (xset (xset C2 19 ln (nI tl)) 2 1 0) 3 0 (nI (ln + 1))) a j = C1 a j := fun a j h1 h2 h3 h4 => by
    unfold xset
    rw [if_neg h4, if_neg h3, if_neg (fun z => h2 z.1)]
    refine fc2 a j ?_
    unfold xin
    simp [h1, Ne.symm h1]
  have hr : ∀ a j, a ≠ 8 → a ≠ 9 → ¬ (a = 0 ∧ j = 15) → ¬ (a = 0 ∧ j = 16) → (xset (xset (xset M2 9 ln (nI tl)) 0 15 0) 0 16 (nI (ln + 1))) a j = R1 a j := fun a j h1 h2 h3 h4 => by
    unfold xset
    rw [if_neg h4, if_neg h3, if_neg (fun z => h2 z.1)]
    exact g3 a j h1
  generalize hCC : xset (xset (xset C2 19 ln (nI tl)) 2 1 0) 3 0 (nI (ln + 1)) = C' at hc ⊢
  generalize hRR : xset (xset (xset M2 9 ln (nI tl)) 0 15 0) 0 16 (nI (ln + 1)) = R' at hr ⊢
  have c18 : ∀ k, C' 18 k = if ln * 120 ≤ k ∧ k < ln * 120 + tl then C1 17 (k - ln * 120) else C1 18 k := fun k => by
    rw [← hCC, ← g2 k]
    rfl
  have c19 : ∀ l, C' 19 l = if l = ln then nI tl else C1 19 l := fun l => by
    rw [← hCC, ← show C2 19 l = C1 19 l from fc2 19 l rfl]
    simp [xset]
  have r8' : ∀ k, R' 8 k = if ln * 120 ≤ k ∧ k < ln * 120 + tl then R1 7 (k - ln * 120) else R1 8 k := fun k => by
    rw [← hRR, ← g4 k]
    rfl
  have r9 : ∀ l, R' 9 l = if l = ln then nI tl else R1 9 l := fun l => by
    rw [← hRR, ← g3 9 l (by decide)]
    simp [xset]
  refine ⟨nI ln, C', R', rfl, rfl, ?_, ?_⟩
  · refine ⟨lv, on, sn, ln + 1, mn, tn, 0, kn, ⟨b1, b2, b3, b4, by omega, b6, b7, by omega, b9⟩, ⟨?_, ?_, ?_, ?_, ?_, ?_, ?_, ?_⟩, ⟨?_, ?_, ?_, ?_, ?_, ?_, ?_, ?_⟩⟩
    · exact (hc 1 0 (by decide) (by decide) (by decide) (by decide)).trans ((fc 1 0 rfl).trans c1)
    · exact (hc 1 1 (by decide) (by decide) (by decide) (by decide)).trans ((fc 1 1 rfl).trans c2)
    · exact (hc 1 2 (by decide) (by decide) (by decide) (by decide)).trans ((fc 1 2 rfl).trans c3)
    · rw [← hCC]
      rfl
    · exact (hc 5 1 (by decide) (by decide) (by decide) (by decide)).trans ((fc 5 1 rfl).trans c5)
    · exact (hc 8 2 (by decide) (by decide) (by decide) (by decide)).trans ((fc 8 2 rfl).trans c6)
    · rw [← hCC]
      rfl
    · exact (hc 9 0 (by decide) (by decide) (by decide) (by decide)).trans ((fc 9 0 rfl).trans c8)
    · exact (hr 0 1 (by decide) (by decide) (by decide) (by decide)).trans ((fr0 0 1 rfl).trans r1)
    · exact (hr 0 7 (by decide) (by decide) (by decide) (by decide)).trans ((fr0 0 7 rfl).trans r2)
    · exact (hr 0 8 (by decide) (by decide) (by decide) (by decide)).trans ((fr0 0 8 rfl).trans r3)
    · rw [← hRR]
      rfl
    · exact (hr 0 32 (by decide) (by decide) (by decide) (by decide)).trans ((fr0 0 32 rfl).trans r5)
    · exact (hr 0 49 (by decide) (by decide) (by decide) (by decide)).trans ((fr0 0 49 rfl).trans r6)
    · rw [← hRR]
      rfl
    · exact (hr 0 58 (by decide) (by decide) (by decide) (by decide)).trans ((fr0 0 58 rfl).trans r8)
  · obtain ⟨ln', mn', ⟨h1, h2, h3, hL, hG, hK⟩, hm, y32, yu, yo, yv⟩ := hY1
    have el : ln' = ln := (nI_eq (by omega) (by omega)).mp (h2.symm.trans q30)
    subst el
    have t9 : ∀ l, l < ln' → R' 9 l = R1 9 l := fun l hl => by rw [r9, if_neg (by omega)]
    have t8 : ∀ l, l < ln' → tx R' l = tx R1 l := fun l hl => by
      funext i
      unfold tx
      by_cases hi : i < 120
      · rw [if_pos hi, if_pos hi, r8', if_neg (fun z => by omega)]
      · rw [if_neg hi, if_neg hi]
    have t11 : ∀ j, R' 11 j = R1 11 j := fun j => hr 11 j (by decide) (by decide) (by simp) (by simp)
    have e17 : R' 0 17 = R1 0 17 := hr 0 17 (by decide) (by decide) (by decide) (by decide)
    refine ⟨ln' + 1, mn', ⟨by omega, by rw [← hCC]; rfl, by rw [← hRR]; rfl, ⟨fun k hk => ?_, fun l hl => ?_⟩, fun l hl => ?_, fun k hk => ?_⟩, hm, (hr 0 32 (by decide) (by decide) (by decide) (by decide)).trans y32, ?_, ?_, fun m hmm => ?_⟩
    · rw [c18, r8']
      by_cases z : ln' * 120 ≤ k ∧ k < ln' * 120 + tl
      · rw [if_pos z, if_pos z]
        exact hT1 _ (by omega)
      · rw [if_neg z, if_neg z]
        exact hL.1 k hk
    · rw [c19, r9]
      by_cases z : l = ln'
      · rw [if_pos z, if_pos z]
        exact ⟨tl, b8, rfl, rfl⟩
      · rw [if_neg z, if_neg z]
        exact hL.2 l hl
    · by_cases z : l = ln'
      · subst z
        refine ⟨tl, b8, by rw [r9, if_pos rfl], ?_⟩
        have tpe : ∀ i, i < tl → tx R' l i = tp R i := fun i hi => by
          unfold tx tp
          rw [if_pos (by omega), r8', if_pos ⟨by omega, by omega⟩, Nat.add_sub_cancel_left, show R1 7 i = R 7 i from fr0 7 i rfl]
        rw [(w_ext hfu b8 (fun i hi => (tp_ok hT (show i < 120 by omega)).1) tpe).1, hw]
      · rw [t9 l (by omega), t8 l (by omega)]
        exact hG l (by omega)
    · rw [t11, hc 22 k (by decide) (by decide) (by simp) (by simp)]
      exact hK k hk
    · rw [e17, hc 3 1 (by decide) (by decide) (by decide) (by decide)]
      exact yu
    · rw [e17]
      rcases yo with z | ⟨l, hl, z⟩
      · exact Or.inl z
      · exact Or.inr ⟨l, by omega, z⟩
    · rw [e17, vot_eq h1 t11 t9 t8 yo, hc 23 m (by decide) (by decide) (by simp) (by simp)]
      exact yv m hmm
end LAWOPS
