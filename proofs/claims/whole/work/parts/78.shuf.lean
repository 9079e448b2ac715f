/-! NAMES as they stand: name, first -/
def shC (M : xM) (lv ov : Nat) (s : Int32) : Prop := M 1 0 = nI lv ∧ M 11 ov = s
def shR (M : xM) (lv : Nat) (f : Nat → Int32) : Prop := M 0 1 = nI lv ∧ ∀ l, l < 16 → M 3 l = f l
def eqN (C R : xM) (k : Nat) : Prop := ∀ j, j < k → C 16 j = R 30 j
section SHUF2
variable {C R : xM}
theorem swap_ok {r n i j : Nat} {M : xM} (hi : i < n) (hj : j < n) (hn : n ≤ 1000000) : F_X1_swap r n (nI i) (nI j) M = some (xset (xset M r i (M r j)) r j (M r i)) := by
  unfold F_X1_swap
  rw [if_neg (nI_pos (by omega)), if_neg (show ¬ Int32.ofNat n ≤ nI i from nI_ge hi (by omega)), if_neg (nI_pos (by omega)), if_neg (show ¬ Int32.ofNat n ≤ nI j from nI_ge hj (by omega)), if_neg (idx_no hi hn), if_neg (idx_no hj hn), if_neg (idx_no hi hn), if_neg (idx_no hj hn), nI_clamp (by omega), nI_clamp (by omega)]
theorem pc_le (a : Nat) : ∀ n, pc a n ≤ n := by
  intro n
  induction n with
  | zero => exact Nat.le_refl 0
  | succ n ih =>
    rw [pc]
    split <;> omega
theorem pc_hi {a lv : Nat} (ha : a < 2 ^ lv) : ∀ k, pc a (lv + k) = pc a lv := by
  intro k
  induction k with
  | zero => rfl
  | succ k ih =>
    rw [show lv + (k + 1) = (lv + k) + 1 from rfl, pc, ih, Nat.testBit_lt_two_pow (Nat.lt_of_lt_of_le ha (Nat.pow_le_pow_right (by decide) (Nat.le_add_right lv k))), if_neg (by decide)]
    rfl
theorem i64ne {p : Nat} (h : p < 16) : ¬ (nI p + 1).toInt64 = 0 := by
  intro z
  have h1 : (nI p + 1).toInt64.toInt = ((p + 1 : Nat) : Int) := by
    rw [Int32.toInt_toInt64, add1, nI_toInt (by omega)]
  rw [z] at h1
  have h2 : (0 : Int64).toInt = 0 := by decide
  omega
theorem sh_swap {K : Nat} (hK : K ≤ 16) (x1 : Int32) (x2 : Int64) (fu : Nat) : ∀ (p : Nat) (C R : xM) (n1 n2 : Nat) (x : Int64), p < K → p < n1 → p < n2 → eqN C R K →
    ∃ C' R', F_X0_shuffle_b57 fu x1 x2 n1 (nI K) x (nI p) C = some (nI K, C') ∧ F_X12_layNames_b69 fu x1 x2 n2 x (nI p) R = some R' ∧ eqN C' R' K ∧ R' 0 53 = R 0 53 := by
  intro p
  induction p with
  | zero =>
    intro C R n1 n2 x hp h1 h2 hE
    obtain ⟨n1, rfl⟩ : ∃ z, n1 = z + 1 := ⟨n1 - 1, by omega⟩
    obtain ⟨n2, rfl⟩ : ∃ z, n2 = z + 1 := ⟨n2 - 1, by omega⟩
    rw [F_X0_shuffle_b57, F_X12_layNames_b69, if_pos (show nI 0 < 1 by decide), if_pos (show nI 0 ≤ 0 by decide)]
    exact ⟨C, R, rfl, rfl, hE, rfl⟩
  | succ p ih =>
    intro C R n1 n2 x hp h1 h2 hE
    obtain ⟨n1, rfl⟩ : ∃ z, n1 = z + 1 := ⟨n1 - 1, by omega⟩
    obtain ⟨n2, rfl⟩ : ∃ z, n2 = z + 1 := ⟨n2 - 1, by omega⟩
    obtain ⟨j, hj, ej⟩ := pick_ok (x * 6364136223846793005 + 1442695040888963407) (show p + 1 < 16 by omega)
    rw [F_X0_shuffle_b57, F_X12_layNames_b69, if_neg (show ¬ nI (p + 1) < 1 from nI_nlt (a := p + 1) (b := 1) (by omega) (by omega)), if_neg (show ¬ nI (p + 1) ≤ 0 from nI_nle (by omega) (by omega)), if_neg (i64ne (by omega)), if_neg (i64ne (by omega))]
    simp only [ej]
    rw [swap_ok (show p + 1 < 16 by omega) (show j < 16 by omega) (by decide)]
    simp only [Option.bind_some, if_neg (idx_no2 (show p + 1 < 16 by omega) (show 16 ≤ 1000000 by decide)), if_neg (idx_no2 (show j < 16 by omega) (show 16 ≤ 1000000 by decide)), nI_clamp (show p + 1 < 2 ^ 31 by omega), nI_clamp (show j < 2 ^ 31 by omega), m1p (show 1 ≤ p + 1 by omega), Nat.add_sub_cancel]
    refine (ih (xset (xset C 16 (p + 1) (C 16 j)) 16 j (C 16 (p + 1))) (xset (xset R 30 (p + 1) (R 30 j)) 30 j (R 30 (p + 1))) n1 n2 _ (by omega) (by omega) (by omega) fun q hq => ?_)
    have e1 := hE (p + 1) (by omega)
    have e2 := hE j (by omega)
    have e3 := hE q hq
    by_cases z1 : q = j
    · subst z1
      simp [xset, e1]
    · by_cases z2 : q = p + 1
      · subst z2
        simp [xset, z1, e2]
      · simp [xset, z1, z2, e3]
theorem sh_lay {lv ov a : Nat} (hl : lv ≤ 16) (ho : ov < 6) {f : Nat → Int32} (hf : ∀ l, l < lv → (f l = nI ov ↔ a.testBit l = true)) (x2 : Int64) {fu : Nat} (hfu : 70000 ≤ fu) : ∀ (k i n1 n2 : Nat) (C R : xM), i + k = lv → k < n1 → k < n2 → shC C lv ov (nI a) → shR R lv f → R 0 53 = nI (pc a i) → eqN C R (pc a i) →
    ∃ C' R', F_X0_shuffle_b6 fu (nI ov) x2 n1 (nI (pc a i)) (nI i) C = some (nI (pc a lv), C') ∧ F_X12_layNames_b8 fu (nI ov) x2 n2 (nI i) R = some R' ∧ eqN C' R' (pc a lv) ∧ R' 0 53 = nI (pc a lv) := by
  intro k
  induction k with
  | zero =>
    intro i n1 n2 C R hi h1 h2 hC hR h53 hE
    obtain ⟨n1, rfl⟩ : ∃ z, n1 = z + 1 := ⟨n1 - 1, by omega⟩
    obtain ⟨n2, rfl⟩ : ∃ z, n2 = z + 1 := ⟨n2 - 1, by omega⟩
    obtain rfl : i = lv := by omega
    have hp := pc_le a i
    rw [F_X0_shuffle_b6, F_X12_layNames_b8, hC.1, hR.1, if_pos (nI_le (Nat.le_refl i) (by omega)), if_pos (nI_le (Nat.le_refl i) (by omega)), h53]
    by_cases h0 : pc a i = 0
    · obtain ⟨z, rfl⟩ : ∃ z, fu = z + 1 := ⟨fu - 1, by omega⟩
      rw [h0, F_X0_shuffle_b57, F_X12_layNames_b69, if_pos (show nI 0 - 1 < 1 by decide), if_pos (show nI 0 - 1 ≤ 0 by decide)]
      exact ⟨C, R, rfl, rfl, fun j hj => absurd hj (by omega), by rw [h53, h0]⟩
    · rw [sub1 (show 1 ≤ pc a i by omega)]
      obtain ⟨C', R', e1, e2, e3, e4⟩ := sh_swap (K := pc a i) (by omega) (nI ov) x2 fu (pc a i - 1) C R fu fu x2 (by omega) (by omega) (by omega) hE
      exact ⟨C', R', e1, e2, e3, e4.trans h53⟩
  | succ k ih =>
    intro i n1 n2 C R hi h1 h2 hC hR h53 hE
    obtain ⟨n1, rfl⟩ : ∃ z, n1 = z + 1 := ⟨n1 - 1, by omega⟩
    obtain ⟨n2, rfl⟩ : ∃ z, n2 = z + 1 := ⟨n2 - 1, by omega⟩
    have hp := pc_le a i
    have I := ih (i + 1) n1 n2
    rw [pc] at I
    rw [F_X0_shuffle_b6, F_X12_layNames_b8, hC.1, hR.1, if_neg (show ¬ nI lv ≤ nI i from nI_ge (by omega) (by omega)), if_neg (show ¬ nI lv ≤ nI i from nI_ge (by omega) (by omega)), if_neg (idx_no (show i < 16 by omega) (by decide)), nI_clamp (show i < 2 ^ 31 by omega), hR.2 i (by omega), P_X0_leversOf, at_ok ho (by decide), hC.2, has_tb (by omega), tb_nI (by omega), h53]
    simp only [F_X0_shuffle_b42, F_X12_layNames_b52, add1]
    have hfi := hf i (by omega)
    cases hb : a.testBit i with
    | false =>
      rw [hb] at hfi I
      rw [if_neg (show ¬ (false = true) by decide), if_pos rfl, if_neg (fun z => absurd (hfi.mp z) (by decide))]
      rw [if_neg (show ¬ (false = true) by decide), Nat.add_zero] at I
      exact I C R (by omega) (by omega) (by omega) hC hR h53 hE
    | true =>
      rw [hb] at hfi I
      rw [if_pos (show true = true from rfl), if_neg (show ¬ ((1 : Int32) = 0) by decide), if_pos (hfi.mpr rfl), if_neg (idx_no (show pc a i < 16 by omega) (by decide)), nI_clamp (show pc a i < 2 ^ 31 by omega), put_ok (show pc a i < 16 by omega) (by decide)]
      rw [if_pos (show true = true from rfl)] at I
      simp only [Option.bind_some, F_X0_shuffle_b42, F_X12_layNames_b52, add1]
      rw [show (xset R 30 (pc a i) (nI i)) 0 53 = nI (pc a i) from h53, add1]
      refine I (xset C 16 (pc a i) (nI i)) (xset (xset R 30 (pc a i) (nI i)) 0 53 (nI (pc a i + 1))) (by omega) (by omega) (by omega) hC hR (by simp [xset]) fun q hq => ?_
      by_cases z : q = pc a i
      · subst z
        simp [xset]
      · simp [xset, z, hE q (by omega)]
theorem md_tab : ∀ t, t < 115 → ∀ n, n < 17 → 1 ≤ n → jfm (nI t - nI 99) (nI n) = nI ((t + 99 * (n - 1)) % n) ∧ ((((nI t - nI 99) - (nI t - nI 99) / (nI n) * (nI n)) + (nI n)) - (((nI t - nI 99) - (nI t - nI 99) / (nI n) * (nI n)) + (nI n)) / (nI n) * (nI n)) = nI ((t + 99 * (n - 1)) % n) := by decide +kernel
theorem md_shift {j m : Nat} (hj : j < 16) (hm : m ≤ 99) : nI j - nI m = nI (j + 99 - m) - nI 99 := by
  apply Int32.toInt_inj.mp
  rw [pk_sub_toInt (by omega) (by omega), pk_sub_toInt (by omega) (by omega)]
  omega
/-- who stands at a PLACE, on both sides -/
theorem nameAt_ok {K j m : Nat} (hK : K ≤ 16) (h1 : 1 ≤ K) (hj : j < 16) (hm : m ≤ 99) (h53 : R 0 53 = nI K) (hE : eqN C R K) : F_X12_nameAt (nI j) (nI m) R = some (P_X0_shuffledAt (nI j - nI m) (nI K) C, R) := by
  obtain ⟨e1, e2⟩ := md_tab (j + 99 - m) (by omega) K (by omega) h1
  have hlt := Nat.mod_lt (j + 99 - m + 99 * (K - 1)) (show K > 0 by omega)
  unfold F_X12_nameAt P_X0_shuffledAt P_X1_modulo
  rw [h53, if_neg (nI_ne0 (by omega) (by omega)), if_neg (nI_ne0 (by omega) (by omega)), md_shift hj hm, if_neg (show ¬ nI K ≤ 0 from nI_nle (by omega) (by omega)), e1, e2, if_neg (idx_no (show (j + 99 - m + 99 * (K - 1)) % K < 16 by omega) (by decide)), nI_clamp (by omega), at_ok (show (j + 99 - m + 99 * (K - 1)) % K < 16 by omega) (by decide), hE _ hlt]
/-- an OFFICE's LEVERS as the reference has them -/
theorem rf_off {lv on ov : Nat} (hl : lv ≤ 16) (ho : on ≤ 6) (r1 : R 0 1 = nI lv) (r7 : R 0 7 = nI on) (hF : RF C R) (hv : ov < on) : ∃ a : Nat, a < 2 ^ lv ∧ R 1 ov = nI a ∧ ∀ l, l < lv → (R 3 l = nI ov ↔ a.testBit l = true) := by
  obtain ⟨lv', on', g1, g2, g3, g4, g5, g6, g7⟩ := hF
  obtain rfl : lv' = lv := (nI_eq (by omega) (by omega)).mp (g3.symm.trans r1)
  obtain rfl : on' = on := (nI_eq (by omega) (by omega)).mp (g4.symm.trans r7)
  obtain ⟨a, ha, ea⟩ := g7 ov hv
  refine ⟨a, ha, ea, fun l hll => ?_⟩
  rw [← tb_nI (show l < 32 by omega), ← ea]
  rcases g5 l (by omega) with ⟨e1, e2, e3⟩ | ⟨o, ho, e1, e2, e3⟩
  · rw [e1, e3 ov hv]
    exact ⟨fun z => absurd z.symm (nIm1 (by omega)), fun z => absurd z (by decide)⟩
  · rw [e1, e3 ov hv]
    refine ⟨fun z => decide_eq_true ((nI_eq (by omega) (by omega)).mp z).symm, fun z => ?_⟩
    rw [of_decide_eq_true z]
theorem shuffle_ok {lv on ov : Nat} (hl : lv ≤ 16) (ho : on ≤ 6) (c1 : C 1 0 = nI lv) (r1 : R 0 1 = nI lv) (r7 : R 0 7 = nI on) (hO : RO C R) (hF : RF C R) (hv : ov < on) (x2 : Int64) {fu : Nat} (hfu : 70000 ≤ fu) : ∃ K C' R', K ≤ 16 ∧ BC (R 1 ov) = nI K ∧ (K = 0 → ∀ l, l < lv → ¬ R 3 l = nI ov) ∧ F_X0_shuffle fu (nI ov) x2 C = some (nI K, C') ∧ F_X12_layNames fu (nI ov) x2 R = some R' ∧ eqN C' R' K ∧ R' 0 53 = nI K := by
  obtain ⟨a, ha, ea, hf⟩ := rf_off hl ho r1 r7 hF hv
  have hb := p2b hl
  obtain ⟨C', R', e1, e2, e3, e4⟩ := sh_lay (C := C) (R := xset R 0 53 0) hl (show ov < 6 by omega) hf x2 hfu lv 0 fu fu (by omega) (by omega) (by omega) ⟨c1, (hO.1 ov (by omega)).1.trans ea⟩ ⟨r1, fun l _ => rfl⟩ rfl (fun j hj => absurd hj (by rw [pc]; omega))
  refine ⟨pc a lv, C', R', by have := pc_le a lv; omega, ?_, fun h0 l hll z => ?_, e1, e2, e3, e4⟩
  · rw [ea, bc_pc (by omega)]
    have := pc_hi ha (16 - lv)
    rw [show lv + (16 - lv) = 16 by omega] at this
    rw [this]
  · have hb1 := (hf l hll).mp z
    have mono : ∀ k, pc a (l + 1) ≤ pc a (l + 1 + k) := by
      intro k
      induction k with
      | zero => exact Nat.le_refl _
      | succ k ih =>
        have : pc a (l + 1 + (k + 1)) = pc a (l + 1 + k) + (if a.testBit (l + 1 + k) = true then 1 else 0) := rfl
        omega
    have m1 := mono (lv - (l + 1))
    rw [show l + 1 + (lv - (l + 1)) = lv by omega, pc, hb1, if_pos rfl] at m1
    omega
theorem op_name {fu : Nat} (hfu : 70000 ≤ fu) (x1 : Int32) (x2 : Int64) (x3 x4 : Int32) (hN : RN C R) (hO : RO C R) (hF : RF C R) : ∃ v C' R', F_X11_name fu x1 x2 x3 x4 C = some (v, C') ∧ F_X12_name fu x1 x2 x3 x4 R = some (v, R') := by
  obtain ⟨lv, on, sn, ln, mn, tn, tl, kn, ⟨b1, b2, b3, b4, b5, b6, b7, b8, b9⟩, ⟨c1, c2, c3, c4, c5, c6, c7, c8⟩, ⟨r1, r2, r3, r4, r5, r6, r7, r8⟩⟩ := hN
  unfold F_X11_name F_X12_name P_X0_isOffice
  rw [show (xset R 0 0 0) 0 7 = nI on from r2, c2, isIn_eq (N := C), isIn_eq (N := C)]
  by_cases h1 : P_X1_within x1 0 (nI on - 1) C = 0
  · rw [if_pos h1, if_pos h1]
    exact ⟨-1, _, _, rfl, rfl⟩
  obtain ⟨ov, hov, rfl⟩ := Classical.not_not.mp fun z => h1 ((withinm1 (by omega)).mpr z)
  rw [if_neg h1, if_neg h1]
  by_cases h2 : P_X1_within x3 0 5 C = 0
  · rw [if_pos h2, if_pos h2]
    exact ⟨-1, _, _, rfl, rfl⟩
  obtain ⟨m, hm, rfl⟩ := within_in (n := 5) (by decide) h2
  rw [if_neg h2, if_neg h2, if_neg (idx_no (show ov < 6 by omega) (by decide)), nI_clamp (by omega)]
  obtain ⟨K, C', R', hK, eB, _, f1, f2, f3, f4⟩ := shuffle_ok (C := C) (R := xset R 0 0 0) b2 b3 c1 r1 r2 hO hF hov x2 hfu
  rw [f1, f2, bcM, eB, isIn_eq (N := C')]
  simp only [Option.bind_some]
  by_cases h3 : P_X1_within x4 0 (nI K - 1) C' = 0
  · rw [if_pos h3, if_pos h3]
    exact ⟨-1, _, _, rfl, rfl⟩
  obtain ⟨j, hj, rfl⟩ := Classical.not_not.mp fun z => h3 ((withinm1 (by omega)).mpr z)
  rw [if_neg h3, if_neg h3, nameAt_ok hK (by omega) (show j < 16 by omega) (show m ≤ 99 by omega) f4 f3]
  exact ⟨_, _, _, rfl, rfl⟩
theorem neg0 (x : Int32) : -x = nI 0 - x := by
  apply Int32.toBitVec_inj.mp
  rw [Int32.toBitVec_neg, Int32.toBitVec_sub]
  show _ = 0#32 - _
  rw [BitVec.zero_sub]
theorem fi_loop {K N : Nat} (hN : N ≤ 100) (hK : K ≤ 16) (h1 : 1 ≤ K) (h53 : R 0 53 = nI K) (hE : eqN C R K) (x1 : Int32) (x2 : Int64) (fu : Nat) : ∀ (k i n1 n2 : Nat) (acc : Int32), i + k = N → k < n1 → k < n2 →
    ∃ v, F_X11_first_b47 fu x1 x2 (nI N) n1 (nI K) acc (nI i) C = some (v, C) ∧ F_X12_first_b43 fu x1 x2 (nI N) n2 acc (nI i) R = some (v, R) := by
  intro k
  induction k with
  | zero =>
    intro i n1 n2 acc hi hn1 hn2
    obtain ⟨n1, rfl⟩ : ∃ z, n1 = z + 1 := ⟨n1 - 1, by omega⟩
    obtain ⟨n2, rfl⟩ : ∃ z, n2 = z + 1 := ⟨n2 - 1, by omega⟩
    rw [F_X11_first_b47, F_X12_first_b43, if_pos (nI_le (by omega) (by omega)), if_pos (nI_le (by omega) (by omega))]
    exact ⟨_, rfl, rfl⟩
  | succ k ih =>
    intro i n1 n2 acc hi hn1 hn2
    obtain ⟨n1, rfl⟩ : ∃ z, n1 = z + 1 := ⟨n1 - 1, by omega⟩
    obtain ⟨n2, rfl⟩ : ∃ z, n2 = z + 1 := ⟨n2 - 1, by omega⟩
    rw [F_X11_first_b47, F_X12_first_b43, if_neg (show ¬ nI N ≤ nI i from nI_ge (by omega) (by omega)), if_neg (show ¬ nI N ≤ nI i from nI_ge (by omega) (by omega)), show F_X12_nameAt 0 (nI i) R = some (P_X0_shuffledAt (nI 0 - nI i) (nI K) C, R) from nameAt_ok (j := 0) hK h1 (by decide) (show i ≤ 99 by omega) h53 hE, neg0]
    simp only [Option.bind_some, F_X11_first_b73, F_X12_first_b68, add1]
    by_cases z : P_X0_shuffledAt (nI 0 - nI i) (nI K) C = x1
    · rw [if_pos z, if_pos z]
      exact ih (i + 1) n1 n2 _ (by omega) (by omega) (by omega)
    · rw [if_neg z, if_neg z, Int32.add_zero]
      exact ih (i + 1) n1 n2 _ (by omega) (by omega) (by omega)
/-- whether a LEVER is of some OFFICE, on both sides -/
theorem of_ok {fu lv on : Nat} (hfu : 70000 ≤ fu) (hO : OV C R on) (hl : lv ≤ 16) (c1 : C 1 0 = nI lv) (r1 : R 0 1 = nI lv) (hF : RF C R) (x : Int32) : (∃ l o, l < lv ∧ o < on ∧ x = nI l ∧ R 3 l = nI o ∧ F_X0_officeOf fu x C = some (nI o, C) ∧ F_X12_isOfOffice x R = some (1, R)) ∨ (F_X0_officeOf fu x C = some (-1, C) ∧ F_X12_isOfOffice x R = some (0, R)) := by
  unfold F_X12_isOfOffice
  rw [lever_eq hl c1 r1]
  rcases oo_ok hfu hO hl r1 hF x with ⟨l, h1, rfl, h3, h4⟩ | ⟨h1, h2⟩
  · have hx : ¬ P_X0_isLever (nI l) C = 0 := fun z => (lever0 hl c1).mp z ⟨l, h1, rfl⟩
    rw [if_neg hx, if_neg (idx_no (show l < 16 by omega) (by decide)), nI_clamp (by omega)]
    rcases h4 with h4 | ⟨o, ho, h4⟩
    · rw [if_pos h4]
      rw [h4] at h3
      exact Or.inr ⟨h3, rfl⟩
    · rw [if_neg (by rw [h4]; exact nIm1 (by have := hO.1; omega))]
      rw [h4] at h3
      exact Or.inl ⟨l, o, h1, ho, rfl, h4, h3, rfl⟩
  · rw [if_pos ((lever0 hl c1).mpr h1)]
    exact Or.inr ⟨h2, rfl⟩
theorem op_first {fu : Nat} (hfu : 70000 ≤ fu) (x1 : Int32) (x2 : Int64) (x3 : Int32) (hN : RN C R) (hO : RO C R) (hF : RF C R) : ∃ v C' R', F_X11_first fu x1 x2 x3 C = some (v, C') ∧ F_X12_first fu x1 x2 x3 R = some (v, R') := by
  obtain ⟨lv, on, sn, ln, mn, tn, tl, kn, ⟨b1, b2, b3, b4, b5, b6, b7, b8, b9⟩, ⟨c1, c2, c3, c4, c5, c6, c7, c8⟩, ⟨r1, r2, r3, r4, r5, r6, r7, r8⟩⟩ := hN
  unfold F_X11_first F_X12_first
  rcases of_ok (C := C) (R := xset R 0 0 0) hfu ⟨b3, c2, r2, hO⟩ b2 c1 r1 hF x1 with ⟨l, o, h1, h2, rfl, h4, h5, h6⟩ | ⟨h5, h6⟩
  · rw [h5, h6]
    simp only [Option.bind_some]
    rw [if_neg (show ¬ nI o = -1 from nIm1 (by omega)), if_neg (show ¬ ((1 : Int32) = 0) by decide), isIn_eq (N := C)]
    by_cases h7 : P_X1_within x3 1 100 C = 0
    · rw [if_pos h7, if_pos h7]
      exact ⟨-1, _, _, rfl, rfl⟩
    have hx := Classical.not_not.mp fun z => h7 (within0.mpr z)
    obtain ⟨N, hN', rfl⟩ := nI_of (Int32.not_lt.mpr (Int32.le_trans (by decide : (0 : Int32) ≤ 1) hx.1))
    have hN2 : N ≤ 100 := (nI_leI hN' (by decide)).mp hx.2
    obtain ⟨K, C', R', hK, eB, h0, f1, f2, f3, f4⟩ := shuffle_ok (C := C) (R := xset R 0 0 0) b2 b3 c1 r1 r2 hO hF h2 x2 hfu
    have hK1 : 1 ≤ K := by
      rcases Nat.eq_zero_or_pos K with z | z
      · exact absurd h4 (h0 z l h1)
      · exact z
    rw [if_neg h7, if_neg h7, if_neg (idx_no (show l < 16 by omega) (by decide)), nI_clamp (by omega), h4, f1, f2]
    simp only [Option.bind_some]
    obtain ⟨v, g1, g2⟩ := fi_loop hN2 hK hK1 f4 f3 (nI l) x2 fu N 0 fu fu 0 (by omega) (by omega) (by omega)
    exact ⟨v, C', R', g1, g2⟩
  · rw [h5, h6]
    exact ⟨-1, _, _, rfl, rfl⟩
end SHUF2
