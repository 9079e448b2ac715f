section RPN
variable {C R : xM}
theorem x00 {P : xM → xM → Prop} {c r : List (Nat × Option Nat)} (hP : ∀ C R, P (msk c C) (msk r R) ↔ P C R) (h : P C R) (hs : xsep [(0, some 0)] r = true) : P C (xset R 0 0 0) :=
  rel_fr (wc := []) (wr := [(0, some 0)]) hP h xfr.rf (xfr.setf xfr.rf rfl) rfl hs
theorem agF_fr {M : xM} (e4 : ∀ j, M 4 j = R 4 j) (e5 : ∀ j, M 5 j = R 5 j) (x f : Int32) (n : Nat) : agF M x f n = agF R x f n := by
  induction n with
  | zero => rfl
  | succ n ih => rw [agF, agF, ih, e4, e5]
theorem op_rows {fu : Nat} (hfu : 70000 ≤ fu) (hN : RN C R) (hP : RP C R) (hO : RO C R) (hB : RB C R) : ∃ v C', F_X11_rows fu C = some (v, C') ∧ F_X12_rows fu R = some (v, xset R 0 0 0) ∧ RB C' (xset R 0 0 0) := by
  have hB0 := x00 RB_m hB rfl
  have hN' : RN C (xset R 0 0 0) := hN
  have hP' : RP C (xset R 0 0 0) := hP
  have hO' : RO C (xset R 0 0 0) := hO
  unfold F_X12_rows
  generalize xset R 0 0 0 = R' at *
  obtain ⟨C', e, hB', h8⟩ := sweep_ok hfu hN' hP' hO' hB0
  obtain ⟨lv, on, sn, ln, mn, tn, tl, kn, ⟨b1, b2, b3, b4, b5, b6, b7, b8, b9⟩, ⟨c1, c2, c3, c4, c5, c6, c7, c8⟩, ⟨r1, r2, r3, r4, r5, r6, r7, r8⟩⟩ := hN'
  have hs : SV C R' sn := ⟨b4, c3, r3, hP'⟩
  have hb := p2b b2
  have hp := p2p lv
  have L : ∀ (k i n : Nat), i + k = 2 ^ lv → k < n → F_X12_rows_b9 fu n (nI (cntB (letB R' sn) i)) (nI i) R' = some (nI (cntB (letB R' sn) (2 ^ lv)), R') := by
    intro k
    induction k with
    | zero =>
      intro i n hi hn
      obtain ⟨n, rfl⟩ : ∃ z, n = z + 1 := ⟨n - 1, by omega⟩
      obtain rfl : i = 2 ^ lv := by omega
      rw [F_X12_rows_b9, r1, p2 b2, if_pos (nI_le (by omega) (by omega))]
    | succ k ih =>
      intro i n hi hn
      obtain ⟨n, rfl⟩ : ∃ z, n = z + 1 := ⟨n - 1, by omega⟩
      have I := ih (i + 1) n (by omega) (by omega)
      rw [cntB] at I
      rw [F_X12_rows_b9, r1, p2 b2, if_neg (nI_ge (by omega) (by omega)), agR hs _ hfu]
      simp only [Option.bind_some, F_X12_rows_b33, add1]
      by_cases h : agF R' (nI i) 0 sn = 0
      · have hl : letB R' sn i = true := decide_eq_true h
        rw [hl, if_pos rfl] at I
        rw [if_pos h]
        exact I
      · have hl : letB R' sn i = false := decide_eq_false h
        rw [hl, if_neg (by decide)] at I
        rw [if_neg h, show nI (cntB (letB R' sn) i) + 0 = nI (cntB (letB R' sn) i + 0) from nI_add _ 0]
        exact I
  have L0 := L (2 ^ lv) 0 fu (by omega) (by omega)
  refine ⟨nI (cntB (letB R' sn) (2 ^ lv)), C', ?_, L0, hB'⟩
  unfold F_X11_rows F_X0_letRows
  rw [e]
  obtain ⟨lv', on', sn', g1, g2, g3, g4, g5, g6, g7⟩ := hB'
  obtain rfl : lv' = lv := (nI_eq (by omega) (by omega)).mp (g4.symm.trans r1)
  obtain rfl : sn' = sn := (nI_eq (by omega) (by omega)).mp (g6.symm.trans r3)
  rcases g7 with g7 | ⟨_, g7, -⟩
  · rw [h8] at g7
    exact absurd g7 (by decide)
  · simp only [Option.bind_some, g7]
theorem one01 {x : Int32} {M : xM} (h : ¬ P_X1_within x 0 1 M = 0) : x = 0 ∨ x = 1 := by
  obtain ⟨j, hj, rfl⟩ := Classical.not_not.mp fun z => h ((within0n (n := 1) (by decide)).mpr z)
  have : j = 0 ∨ j = 1 := by omega
  rcases this with rfl | rfl
  · exact Or.inl rfl
  · exact Or.inr rfl
theorem fst_end {p : Nat → Bool} {i N : Nat} (h1 : fstB p i = -1) (h2 : p i = true) (hi : i < N) (hi2 : i < 2 ^ 31) : fstB p N = nI i := by
  have h3 : fstB p (i + 1) = nI i := by rw [fstB, if_pos h1, if_pos h2]
  have h4 := fst_stay (p := p) (i := i + 1) (by rw [h3]; exact nIm1 hi2) (N - (i + 1))
  rw [show i + 1 + (N - (i + 1)) = N by omega] at h4
  rw [h4, h3]
theorem op_proof {fu : Nat} (hfu : 70000 ≤ fu) (x1 : Int32) (hN : RN C R) (hP : RP C R) (hO : RO C R) (hB : RB C R) : ∃ v C', F_X11_proof fu x1 C = some (v, C') ∧ F_X12_proof fu x1 R = some (v, xset R 0 0 0) ∧ RB C' (xset R 0 0 0) := by
  have hB0 := x00 RB_m hB rfl
  have hN' : RN C (xset R 0 0 0) := hN
  have hP' : RP C (xset R 0 0 0) := hP
  have hO' : RO C (xset R 0 0 0) := hO
  unfold F_X11_proof F_X12_proof
  rw [isIn_eq (N := C)]
  generalize xset R 0 0 0 = R' at *
  by_cases h1 : P_X1_within x1 0 1 C = 0
  · exact ⟨-1, C, by rw [if_pos h1], by rw [if_pos h1], hB0⟩
  rw [if_neg h1, if_neg h1]
  obtain ⟨C', e, hB', h8⟩ := sweep_ok hfu hN' hP' hO' hB0
  obtain ⟨lv, on, sn, ln, mn, tn, tl, kn, ⟨b1, b2, b3, b4, b5, b6, b7, b8, b9⟩, ⟨c1, c2, c3, c4, c5, c6, c7, c8⟩, ⟨r1, r2, r3, r4, r5, r6, r7, r8⟩⟩ := hN'
  have hs : SV C R' sn := ⟨b4, c3, r3, hP'⟩
  have ho : OV C R' on := ⟨b3, c2, r2, hO'⟩
  have hb := p2b b2
  have hp := p2p lv
  have h01 : ¬ ((1 : Int32) = 0) := by decide
  have h00 : ¬ ((0 : Int32) = 1) := by decide
  have L : ∀ (k i n : Nat), i + k = 2 ^ lv → k < n → fstB (if x1 = 0 then beatB R' sn on else barB R' sn on) i = -1 → F_X12_proof_b18 fu x1 n (nI i) R' = some (fstB (if x1 = 0 then beatB R' sn on else barB R' sn on) (2 ^ lv), R') := by
    intro k
    induction k with
    | zero =>
      intro i n hi hn hf
      obtain ⟨n, rfl⟩ : ∃ z, n = z + 1 := ⟨n - 1, by omega⟩
      obtain rfl : i = 2 ^ lv := by omega
      rw [F_X12_proof_b18, r1, p2 b2, if_pos (nI_le (by omega) (by omega)), hf]
    | succ k ih =>
      intro i n hi hn hf
      obtain ⟨n, rfl⟩ : ∃ z, n = z + 1 := ⟨n - 1, by omega⟩
      have I := fun z => ih (i + 1) n (by omega) (by omega) z
      have E := fun z => fst_end (N := 2 ^ lv) hf z (by omega) (by omega)
      rw [fstB, if_pos hf] at I
      rw [F_X12_proof_b18, r1, p2 b2, if_neg (nI_ge (by omega) (by omega)), agR hs _ hfu]
      simp only [Option.bind_some, F_X12_proof_b41, lwR ho _ hfu, F_X12_proof_b66, F_X12_proof_b61, add1]
      by_cases hx : x1 = 0
      · rw [if_pos hx] at I E ⊢
        rw [if_pos hx, if_pos hx]
        by_cases ha : agF R' (nI i) 0 sn = 0
        · rw [if_pos ha]
          by_cases hl : lawP R' (nI i) on
          · have hh : beatB R' sn on i = false := by
              unfold beatB
              rw [decide_eq_true hl, Bool.not_true, Bool.and_false]
            rw [if_pos hl, if_pos rfl]
            exact I (by rw [hh]; rfl)
          · have hh : beatB R' sn on i = true := by
              unfold beatB
              rw [decide_eq_true ha, decide_eq_false hl]
              rfl
            rw [if_neg hl, if_neg h01, if_pos trivial, E hh]
        · have hh : beatB R' sn on i = false := by
            unfold beatB
            rw [decide_eq_false ha, Bool.false_and]
          rw [if_neg ha]
          by_cases hl : lawP R' (nI i) on
          · rw [if_pos hl, if_neg h00, if_neg h00]
            exact I (by rw [hh]; rfl)
          · rw [if_neg hl, if_pos rfl]
            exact I (by rw [hh]; rfl)
      · rw [if_neg hx] at I E ⊢
        rw [if_neg hx, if_neg hx]
        by_cases ha : agF R' (nI i) 0 sn = 0
        · have hh : barB R' sn on i = false := by
            unfold barB
            rw [decide_eq_true ha]
            rfl
          rw [if_pos ha]
          by_cases hl : lawP R' (nI i) on
          · rw [if_pos hl, if_pos rfl]
            exact I (by rw [hh]; rfl)
          · rw [if_neg hl, if_neg h01, if_neg h01]
            exact I (by rw [hh]; rfl)
        · rw [if_neg ha]
          by_cases hl : lawP R' (nI i) on
          · have hh : barB R' sn on i = true := by
              unfold barB
              rw [decide_eq_false ha, decide_eq_true hl]
              rfl
            rw [if_pos hl, if_neg h00, if_pos trivial, E hh]
          · have hh : barB R' sn on i = false := by
              unfold barB
              rw [decide_eq_false hl, Bool.and_false]
            rw [if_neg hl, if_pos rfl]
            exact I (by rw [hh]; rfl)
  have L0 := L (2 ^ lv) 0 fu (by omega) (by omega) (by split <;> rfl)
  refine ⟨_, C', ?_, L0, hB'⟩
  unfold F_X0_beatingRow F_X0_barredRow
  rw [e]
  obtain ⟨lv', on', sn', g1, g2, g3, g4, g5, g6, g7⟩ := hB'
  obtain rfl : lv' = lv := (nI_eq (by omega) (by omega)).mp (g4.symm.trans r1)
  obtain rfl : sn' = sn := (nI_eq (by omega) (by omega)).mp (g6.symm.trans r3)
  obtain rfl : on' = on := (nI_eq (by omega) (by omega)).mp (g5.symm.trans r2)
  rcases g7 with g7 | ⟨_, _, g8, g9, -⟩
  · rw [h8] at g7
    exact absurd g7 (by decide)
  · by_cases hx : x1 = 0
    · simp only [Option.bind_some, if_pos hx, g8]
    · simp only [Option.bind_some, if_neg hx, g9]
theorem nb1 : vp_nar .boolean (1) = 1 := by decide
theorem nb0 : vp_nar .boolean (0) = 0 := by decide
def NV (M R : xM) (lv sn : Nat) : Prop := M 0 1 = nI lv ∧ M 0 8 = nI sn ∧ (∀ j, M 4 j = R 4 j) ∧ ∀ j, M 5 j = R 5 j
theorem NV.e1 {M : xM} {lv sn : Nat} (v : NV M R lv sn) : M 0 1 = nI lv := v.1
theorem NV.e8 {M : xM} {lv sn : Nat} (v : NV M R lv sn) : M 0 8 = nI sn := v.2.1
theorem NV.e4 {M : xM} {lv sn : Nat} (v : NV M R lv sn) : ∀ j, M 4 j = R 4 j := v.2.2.1
theorem NV.e5 {M : xM} {lv sn : Nat} (v : NV M R lv sn) : ∀ j, M 5 j = R 5 j := v.2.2.2
theorem NV.sv {M : xM} {lv sn : Nat} (v : NV M R lv sn) (hs : SV C R sn) : SV C M sn := by
  obtain ⟨h1, h2, h3, q1, q2, q3⟩ := hs
  refine ⟨h1, h2, v.e8, fun t ht => ?_, fun t ht => ?_, fun t ht => ?_⟩
  · rw [v.e4, v.e5]
    exact q1 t ht
  · rw [v.e4]
    exact q2 t ht
  · rw [v.e5]
    exact q3 t ht
theorem n7_loop {lv sn : Nat} {fu : Nat} : ∀ (k i n : Nat) (M : xM), i + k = 1024 → k < n → NV M R lv sn → (∀ j, j < i → M 6 j = 0) → ∃ M', F_X12_need_b7 fu n (nI i) M = F_X12_need_b29 fu fu 0 M' ∧ NV M' R lv sn ∧ ∀ j, j < 1024 → M' 6 j = 0 := by
  intro k
  induction k with
  | zero =>
    intro i n M hi hn h1 h2
    obtain ⟨n, rfl⟩ : ∃ z, n = z + 1 := ⟨n - 1, by omega⟩
    obtain rfl : i = 1024 := by omega
    rw [F_X12_need_b7, if_pos (show (1024 : Int32) ≤ nI 1024 from by decide)]
    exact ⟨M, rfl, h1, h2⟩
  | succ k ih =>
    intro i n M hi hn h1 h2
    obtain ⟨n, rfl⟩ : ∃ z, n = z + 1 := ⟨n - 1, by omega⟩
    rw [F_X12_need_b7, if_neg (show ¬ (1024 : Int32) ≤ nI i from (nI_ge (by omega) (by omega) : ¬ nI 1024 ≤ nI i)), if_neg (idx_no (show i < 1024 by omega) (by decide)), nI_clamp (by omega), add1, nb0]
    refine ih (i + 1) n (xset M 6 i 0) (by omega) (by omega) ⟨h1.e1, h1.e8, h1.e4, h1.e5⟩ fun j hj => ?_
    by_cases e : j = i
    · subst e
      simp [xset]
    · simp [xset, e, h2 j (by omega)]
theorem n29_loop {lv sn : Nat} (hl : lv ≤ 16) (hs : SV C R sn) {fu : Nat} (hfu : 70000 ≤ fu) : ∀ (k i n : Nat) (M : xM), i + k = 2 ^ lv → k < n → NV M R lv sn → (∀ j, j < 1024 → M 6 j = if hitB R sn i j = true then 1 else 0) → ∃ M', F_X12_need_b29 fu n (nI i) M = F_X12_need_b60 fu fu (-1) 0 M' ∧ NV M' R lv sn ∧ ∀ j, j < 1024 → M' 6 j = if hitB R sn (2 ^ lv) j = true then 1 else 0 := by
  have hb := p2b hl
  intro k
  induction k with
  | zero =>
    intro i n M hi hn h1 h2
    obtain ⟨n, rfl⟩ : ∃ z, n = z + 1 := ⟨n - 1, by omega⟩
    obtain rfl : i = 2 ^ lv := by omega
    rw [F_X12_need_b29, h1.e1, p2 hl, if_pos (nI_le (by omega) (by omega))]
    exact ⟨M, rfl, h1, h2⟩
  | succ k ih =>
    intro i n M hi hn h1 h2
    obtain ⟨n, rfl⟩ : ∃ z, n = z + 1 := ⟨n - 1, by omega⟩
    obtain ⟨a, ha, ea⟩ := agN R (nI i) 0 sn hs.1
    have hp := p2s hs.1
    rw [F_X12_need_b29, h1.e1, p2 hl, if_neg (nI_ge (by omega) (by omega)), agR (h1.sv hs) _ hfu, agF_fr h1.e4 h1.e5, ea]
    simp only [Option.bind_some]
    rw [if_neg (idx_no (show a < 1024 by omega) (by decide)), nI_clamp (by omega), add1, nb1]
    refine ih (i + 1) n (xset M 6 a 1) (by omega) (by omega) ⟨h1.e1, h1.e8, h1.e4, h1.e5⟩ fun j hj => ?_
    rw [hitB, ea]
    by_cases e : j = a
    · subst e
      simp [xset]
    · have e2 : ¬ nI a = nI j := fun z => e ((nI_eq (by omega) (by omega)).mp z).symm
      rw [decide_eq_false e2, Bool.or_false, ← h2 j hj]
      simp [xset, e]
theorem ieR_loop {lv sn N : Nat} {M : xM} (h1 : sn ≤ 10) (h : NV M R lv sn) (h6 : ∀ k, k < 1024 → M 6 k = if hitB R sn N k = true then 1 else 0) (s : Int32) (fu : Nat) : ∀ (k i n : Nat), i + k = 2 ^ sn → k < n → 1 ≤ i → (∀ j, j < i → 1 ≤ j → hitB R sn N j = true → ¬ (nI j &&& s = 0)) → F_X12_isEnough_b2 fu s n (nI i) M = some (if enP R sn N s then 1 else 0, M) := by
  have hb := p2s h1
  have hp := p2p sn
  intro k
  induction k with
  | zero =>
    intro i n hi hn hi1 hl
    obtain ⟨n, rfl⟩ : ∃ z, n = z + 1 := ⟨n - 1, by omega⟩
    obtain rfl : i = 2 ^ sn := by omega
    rw [F_X12_isEnough_b2, h.e8, p2 (by omega), if_pos (nI_le (by omega) (by omega)), if_pos hl]
  | succ k ih =>
    intro i n hi hn hi1 hl
    obtain ⟨n, rfl⟩ : ∃ z, n = z + 1 := ⟨n - 1, by omega⟩
    rw [F_X12_isEnough_b2, h.e8, p2 (by omega), if_neg (nI_ge (by omega) (by omega)), if_neg (idx_no (show i < 1024 by omega) (by decide)), nI_clamp (by omega), h6 i (by omega), F_X12_isEnough_b29, add1]
    cases e : hitB R sn N i with
    | false =>
      rw [if_neg (show ¬ (false = true) by decide), if_pos (show (0 : Int32) = 0 from rfl)]
      refine ih (i + 1) n (by omega) (by omega) (by omega) fun j hj hj1 => ?_
      by_cases ej : j = i
      · subst ej
        rw [e]
        exact fun z => absurd z (by decide)
      · exact hl j (by omega) hj1
    | true =>
      rw [if_pos (show true = true from rfl), if_neg (show ¬ ((1 : Int32) = 0) by decide)]
      by_cases h5 : nI i &&& s = 0
      · rw [if_pos h5, if_neg (fun z => z i (by omega) hi1 e h5)]
      · rw [if_neg h5]
        refine ih (i + 1) n (by omega) (by omega) (by omega) fun j hj hj1 hh => ?_
        by_cases ej : j = i
        · subst ej
          exact h5
        · exact hl j (by omega) hj1 hh
theorem ieR {lv sn N : Nat} {M : xM} (h1 : sn ≤ 10) (h : NV M R lv sn) (h6 : ∀ k, k < 1024 → M 6 k = if hitB R sn N k = true then 1 else 0) (s : Nat) {fu : Nat} (hfu : 70000 ≤ fu) : F_X12_isEnough fu (nI s) M = some (if ndB R sn N s = true then 1 else 0, M) := by
  have := ieR_loop h1 h h6 (nI s) fu (2 ^ sn - 1) 1 fu (by have := p2p sn; omega) (by have := p2s h1; omega) (by omega) (fun j hj hj1 => absurd hj (by omega))
  unfold F_X12_isEnough
  refine this.trans ?_
  unfold ndB
  by_cases hh : enP R sn N (nI s)
  · rw [if_pos hh, decide_eq_true hh, if_pos rfl]
  · rw [if_neg hh, decide_eq_false hh, if_neg (by decide)]
theorem n60_loop {lv sn N : Nat} {M : xM} (h1 : sn ≤ 10) (h : NV M R lv sn) (h6 : ∀ k, k < 1024 → M 6 k = if hitB R sn N k = true then 1 else 0) {fu : Nat} (hfu : 70000 ≤ fu) : ∀ (k i n : Nat), i + k = 2 ^ sn → k < n → F_X12_need_b60 fu n (bst (ndB R sn N) i) (nI i) M = some (bst (ndB R sn N) (2 ^ sn), M) := by
  have hb := p2s h1
  intro k
  induction k with
  | zero =>
    intro i n hi hn
    obtain ⟨n, rfl⟩ : ∃ z, n = z + 1 := ⟨n - 1, by omega⟩
    obtain rfl : i = 2 ^ sn := by omega
    rw [F_X12_need_b60, h.e8, p2 (by omega), if_pos (nI_le (by omega) (by omega))]
  | succ k ih =>
    intro i n hi hn
    obtain ⟨n, rfl⟩ : ∃ z, n = z + 1 := ⟨n - 1, by omega⟩
    have I := ih (i + 1) n (by omega) (by omega)
    rw [bst] at I
    rw [F_X12_need_b60, h.e8, p2 (by omega), if_neg (nI_ge (by omega) (by omega))]
    simp only [F_X12_need_b83, ieR h1 h h6 i hfu, Option.bind_some, F_X12_need_b93, add1]
    have hbe : P_X12_isBefore (nI i) (bst (ndB R sn N) i) M = P_X12_isBefore (nI i) (bst (ndB R sn N) i) (fun _ _ => 0) := by
      rw [← bef_eq (M := M), ← bef_eq (M := M)]
    rw [hbe]
    cases hp : ndB R sn N i with
    | false =>
      rw [hp, Bool.false_and, if_neg (show ¬ (false = true) by decide)] at I
      rw [if_neg (show ¬ (false = true) by decide), if_pos (show (0 : Int32) = 0 from rfl)]
      by_cases c1 : bst (ndB R sn N) i = -1
      · rw [if_pos c1]
        exact I
      · rw [if_neg c1]
        by_cases c2 : P_X12_isBefore (nI i) (bst (ndB R sn N) i) (fun _ _ => 0) = 0
        · rw [if_pos c2]
          exact I
        · rw [if_neg c2]
          exact I
    | true =>
      rw [hp, Bool.true_and] at I
      rw [if_pos (show true = true from rfl), if_neg (show ¬ ((1 : Int32) = 0) by decide)]
      by_cases c1 : bst (ndB R sn N) i = -1
      · rw [if_pos c1]
        rw [if_pos (by simp [c1])] at I
        exact I
      · rw [if_neg c1]
        by_cases c2 : P_X12_isBefore (nI i) (bst (ndB R sn N) i) (fun _ _ => 0) = 0
        · rw [if_pos c2]
          rw [if_neg (by simp [c1, c2])] at I
          exact I
        · rw [if_neg c2]
          rw [if_pos (by simp [c2])] at I
          exact I
theorem op_need {fu : Nat} (hfu : 70000 ≤ fu) (hN : RN C R) (hP : RP C R) (hO : RO C R) (hB : RB C R) : ∃ v C' R', F_X11_need fu C = some (v, C') ∧ F_X12_need fu R = some (v, R') ∧ RB C' (xset R 0 0 0) := by
  have hB0 := x00 RB_m hB rfl
  have hN' : RN C (xset R 0 0 0) := hN
  have hP' : RP C (xset R 0 0 0) := hP
  have hO' : RO C (xset R 0 0 0) := hO
  unfold F_X12_need
  generalize xset R 0 0 0 = R' at *
  obtain ⟨C', e, hB', h8⟩ := sweep_ok hfu hN' hP' hO' hB0
  obtain ⟨lv, on, sn, ln, mn, tn, tl, kn, ⟨b1, b2, b3, b4, b5, b6, b7, b8, b9⟩, ⟨c1, c2, c3, c4, c5, c6, c7, c8⟩, ⟨r1, r2, r3, r4, r5, r6, r7, r8⟩⟩ := hN'
  have hs : SV C R' sn := ⟨b4, c3, r3, hP'⟩
  have hb := p2b b2
  have hp := p2s b4
  obtain ⟨M1, z1, z2, z3⟩ := n7_loop (R := R') (lv := lv) (sn := sn) (fu := fu) 1024 0 fu R' (by omega) (by omega) ⟨r1, r3, fun _ => rfl, fun _ => rfl⟩ (fun j hj => absurd hj (by omega))
  obtain ⟨M2, y1, y2, y3⟩ := n29_loop b2 hs hfu (2 ^ lv) 0 fu M1 (by omega) (by omega) z2 (fun j hj => by rw [z3 j hj]; rfl)
  have x1 := n60_loop (N := 2 ^ lv) b4 y2 y3 hfu (2 ^ sn) 0 fu (by omega) (by omega)
  refine ⟨bst (ndB R' sn (2 ^ lv)) (2 ^ sn), C', M2, ?_, ?_, hB'⟩
  · unfold F_X11_need F_X0_neededStraps
    rw [e]
    obtain ⟨lv', on', sn', g1, g2, g3, g4, g5, g6, g7⟩ := hB'
    obtain rfl : lv' = lv := (nI_eq (by omega) (by omega)).mp (g4.symm.trans r1)
    obtain rfl : sn' = sn := (nI_eq (by omega) (by omega)).mp (g6.symm.trans r3)
    rcases g7 with g7 | ⟨_, _, _, _, g10⟩
    · rw [h8] at g7
      exact absurd g7 (by decide)
    · simp only [Option.bind_some, g10]
  · exact z1.trans (y1.trans x1)
end RPN
