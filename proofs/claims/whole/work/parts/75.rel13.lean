section SEALS2
variable {C R : xM} {m N : Nat} {t q v : Nat → Int32}
theorem tb_ite {c : Prop} [Decidable c] {i p : Nat} (hi : i < 32) (hp : p < 32) : tb (if c then bit' i else 0) p = (decide c && decide (p = i)) := by
  by_cases h : c
  · rw [if_pos h, tb_bit hi hp, decide_eq_true h, Bool.true_and]
  · rw [if_neg h, tb_0, decide_eq_false h, Bool.false_and]
theorem ifc {c d : Prop} [Decidable c] [Decidable d] (h : c ↔ d) {a b : Int32} : (if c then a else b) = if d then a else b := by
  by_cases hd : d
  · rw [if_pos (h.mpr hd), if_pos hd]
  · rw [if_neg (fun z => hd (h.mp z)), if_neg hd]
theorem se_loop (hm : m < 6) (hN : N ≤ 20) (fu : Nat) : ∀ (k i n1 n2 : Nat) (C R : xM) (sh sl o nu pl : Int32), i + k = N → k < n1 → k < n2 → EVC C m N t q v → EVR R m N t q v → (o = 0 ∧ sh = 1 ∧ sl = nu) ∨ (o = 1 ∧ sh = 0) → pl = plc q v i → C 10 4 = R 0 69 →
    (∀ p, p < 32 → tb (C 10 5) p = if p < i then decide (¬ R 42 p = 0) else if p = i then decide (o = 1) else false) → (∀ p, p < i → R 43 p = plc q v p) →
    ∃ C' R', F_X7_follow_b20 fu (nI m) n1 sh sl (nI i) C = some C' ∧ F_X12_goSeals_b15 fu (nI m) n2 o nu pl (nI i) R = some R' ∧ EVC C' m N t q v ∧ EVR R' m N t q v ∧ C' 10 4 = R' 0 69 ∧ (∀ p, p ≤ N → tb (C' 10 5) p = decide (¬ R' 42 p = 0)) ∧ ∀ p, p ≤ N → R' 43 p = plc q v p := by
  intro k
  induction k with
  | zero =>
    intro i n1 n2 C R sh sl o nu pl hi h1 h2 hc hr hs hp hb ht ha
    obtain ⟨n1, rfl⟩ : ∃ z, n1 = z + 1 := ⟨n1 - 1, by omega⟩
    obtain ⟨n2, rfl⟩ : ∃ z, n2 = z + 1 := ⟨n2 - 1, by omega⟩
    obtain rfl : i = N := by omega
    have hle : nI i ≤ nI i := nI_le (by omega) (by omega)
    rw [F_X7_follow_b20, at_ok hm (by decide), hc.1, if_pos hle, F_X12_goSeals_b15]
    simp only [nI_clamp (show m < 2 ^ 31 by omega), if_neg (idx_no2 hm (show 6 ≤ 1000000 by decide)), hr.1, if_pos hle, nI_clamp (show i < 2 ^ 31 by omega), if_neg (idx_no2 (show i < 21 by omega) (show 21 ≤ 1000000 by decide)), show ∀ x, (xset R 42 i x) 38 m = nI i from fun x => hr.1]
    have ho : vp_nar .boolean o = o := by
      rcases hs with ⟨rfl, _⟩ | ⟨rfl, _⟩
      · exact nb0
      · exact nb1
    rw [ho]
    refine ⟨_, _, rfl, rfl, hc, hr, hb, fun p hp2 => ?_, fun p hp2 => ?_⟩
    · rw [ht p (by omega)]
      by_cases e : p = i
      · subst e
        rw [if_neg (by omega), if_pos rfl]
        rcases hs with ⟨rfl, _⟩ | ⟨rfl, _⟩
        · simp [xset]
        · simp [xset]
      · rw [if_pos (by omega)]
        simp [xset, e]
    · by_cases e : p = i
      · subst e
        simp [xset, hp]
      · simp [xset, e, ha p (by omega)]
  | succ k ih =>
    intro i n1 n2 C R sh sl o nu pl hi h1 h2 hc hr hs hp hb ht ha
    obtain ⟨n1, rfl⟩ : ∃ z, n1 = z + 1 := ⟨n1 - 1, by omega⟩
    obtain ⟨n2, rfl⟩ : ∃ z, n2 = z + 1 := ⟨n2 - 1, by omega⟩
    obtain ⟨C1, sh1, sl1, e1, hc1, f1, f2, f3, f4⟩ := fo_step hm hN hc (sh := sh) (sl := sl) (by rcases hs with ⟨_, z, _⟩ | ⟨_, z⟩; exact Or.inr z; exact Or.inl z) (show i < N by omega) fu n1
    obtain ⟨R1, o1, nu1, pl1, e2, hr1, g1, g2, g3, g4, g5, g6⟩ := gs_step hm hN hr (o := o) (nu := nu) (pl := pl) (by rcases hs with ⟨z, _⟩ | ⟨z, _⟩; exact Or.inl z; exact Or.inr z) (show i < N by omega) fu n2
    rw [e1, e2]
    have d10 : ¬ ((1 : Int32) = 0) := by decide
    have d01 : ¬ ((0 : Int32) = 1) := by decide
    refine ih (i + 1) n1 n2 C1 R1 sh1 sl1 o1 nu1 pl1 (by omega) (by omega) (by omega) hc1 hr1 ?_ ?_ ?_ ?_ ?_
    · rw [f1, f2, g1, g2]
      rcases hs with ⟨rfl, rfl, rfl⟩ | ⟨rfl, rfl⟩
      · by_cases k0 : q i = 0
        · simp [k0]
        · by_cases k1 : q i = 1
          · by_cases hv : v i = sl
            · simp [k1, hv]
            · simp [k1, hv]
          · by_cases k2 : q i = 2
            · simp [k2]
            · simp [k0, k1, k2]
      · by_cases k0 : q i = 0
        · simp [k0]
        · by_cases k1 : q i = 1
          · simp [k1]
          · by_cases k2 : q i = 2
            · simp [k2]
            · simp [k0, k1, k2]
    · rw [g3, plc, hp]
    · rw [f3, g4, hb]
      rcases hs with ⟨rfl, rfl, rfl⟩ | ⟨rfl, rfl⟩
      · have : ((q i = 0 ∧ (1 : Int32) = 1) ∨ (q i = 1 ∧ ((1 : Int32) = 0 ∨ ¬ v i = sl))) ↔ ((q i = 1 ∧ ((0 : Int32) = 1 ∨ ¬ v i = sl)) ∨ (q i = 0 ∧ (0 : Int32) = 0)) := by
          simp only [d10, d01, false_or, and_true]
          exact or_comm
        exact congrArg (fun z => R 0 69 ||| z) (ifc this)
      · have : ((q i = 0 ∧ (0 : Int32) = 1) ∨ (q i = 1 ∧ ((0 : Int32) = 0 ∨ ¬ v i = sl))) ↔ ((q i = 1 ∧ ((1 : Int32) = 1 ∨ ¬ v i = nu)) ∨ (q i = 0 ∧ (1 : Int32) = 0)) := by
          simp only [d10, d01, and_false, false_or, or_false, true_or, and_true]
        exact congrArg (fun z => R 0 69 ||| z) (ifc this)
    · intro p hp32
      rw [f4, tb_or, tb_or, tb_ite (by omega) hp32, tb_ite (by omega) hp32, ht p hp32, g5, f1, g1]
      by_cases e0 : p < i
      · simp [e0, show ¬ p = i by omega, show ¬ p = i + 1 by omega, show p < i + 1 by omega]
      · by_cases e1 : p = i
        · subst e1
          simp only [Nat.lt_irrefl, if_false, if_true, Nat.lt_succ_self, decide_eq_false (show ¬ p = p + 1 by omega), Bool.and_false, Bool.or_false]
          rcases hs with ⟨rfl, rfl, rfl⟩ | ⟨rfl, rfl⟩
          · by_cases k1 : q p = 1
            · by_cases hv : v p = sl
              · simp [k1, hv]
              · simp [k1, hv]
            · simp [k1]
          · simp
        · rw [if_neg e0, if_neg e1, if_neg (show ¬ p < i + 1 by omega), decide_eq_false (show ¬ p = i from e1)]
          by_cases e2 : p = i + 1
          · rw [if_pos e2, decide_eq_true e2]
            rcases hs with ⟨rfl, rfl, rfl⟩ | ⟨rfl, rfl⟩
            · by_cases k0 : q i = 0
              · simp [k0]
              · by_cases k1 : q i = 1
                · by_cases hv : v i = sl
                  · simp [k1, hv]
                  · simp [k1, hv]
                · by_cases k2 : q i = 2
                  · simp [k2]
                  · simp [k0, k1, k2]
            · by_cases k0 : q i = 0
              · simp [k0]
              · by_cases k1 : q i = 1
                · simp [k1]
                · by_cases k2 : q i = 2
                  · simp [k2]
                  · simp [k0, k1, k2]
          · rw [if_neg e2, decide_eq_false e2]
            simp
    · intro p hp2
      rw [g6]
      by_cases e : p = i
      · subst e
        rw [if_pos rfl, hp]
      · rw [if_neg e]
        exact ha p (by omega)
theorem jmin_comm (a b : Int32) : jmin a b = jmin b a := by
  unfold jmin
  by_cases h : b < a
  · rw [if_pos h, if_neg (fun z => Int32.lt_irrefl (Int32.lt_trans h z))]
  · rw [if_neg h]
    by_cases h2 : a < b
    · rw [if_pos h2]
    · rw [if_neg h2]
      exact Int32.le_antisymm (Int32.not_lt.mp h) (Int32.not_lt.mp h2)
theorem jmax_comm (a b : Int32) : jmax a b = jmax b a := by
  unfold jmax
  by_cases h : a < b
  · rw [if_pos h, if_neg (fun z => Int32.lt_irrefl (Int32.lt_trans h z))]
  · rw [if_neg h]
    by_cases h2 : b < a
    · rw [if_pos h2]
    · rw [if_neg h2]
      exact Int32.le_antisymm (Int32.not_lt.mp h2) (Int32.not_lt.mp h)
theorem seals_ok {fu : Nat} (hfu : 70000 ≤ fu) (hm : m < 6) (hE : RE C R) : ∃ N t q v C' R', N ≤ 20 ∧ F_X7_follow fu (nI m) C = some C' ∧ F_X12_goSeals fu (nI m) R = some R' ∧ EVC C' m N t q v ∧ EVR R' m N t q v ∧ C' 10 4 = R' 0 69 ∧ (∀ p, p ≤ N → tb (C' 10 5) p = decide (¬ R' 42 p = 0)) ∧ ∀ p, p ≤ N → R' 43 p = plc q v p := by
  obtain ⟨h1, h2⟩ := hE
  obtain ⟨N, hN, e1, e2⟩ := h1 m hm
  refine ⟨N, fun i => R 39 (m * 20 + i), fun i => R 40 (m * 20 + i), fun i => R 41 (m * 20 + i), ?_⟩
  unfold F_X7_follow F_X12_goSeals
  have hc : EVC C m N (fun i => R 39 (m * 20 + i)) (fun i => R 40 (m * 20 + i)) (fun i => R 41 (m * 20 + i)) := ⟨e1, fun i hi => by
    obtain ⟨a1, a2, a3, _⟩ := h2 (m * 20 + i) (by omega)
    exact ⟨a1, a2, a3⟩⟩
  have hr : EVR R m N (fun i => R 39 (m * 20 + i)) (fun i => R 40 (m * 20 + i)) (fun i => R 41 (m * 20 + i)) := ⟨e2, fun i hi => ⟨rfl, rfl, rfl⟩⟩
  obtain ⟨C', R', z1, z2, z3, z4, z5, z6, z7⟩ := se_loop hm hN fu N 0 fu fu (xset (xset C 10 4 0) 10 5 (bit' 0)) (xset R 0 69 0) 0 0 1 (-1) 0 (by omega) (by omega) (by omega) hc hr (Or.inr ⟨rfl, rfl⟩) rfl (by simp [xset]) (fun p hp => by
    rw [if_neg (by omega), show (xset (xset C 10 4 0) 10 5 (bit' 0)) 10 5 = bit' 0 from by simp [xset], tb_bit (by omega) hp]
    by_cases e : p = 0
    · rw [if_pos e, decide_eq_true e]
      rfl
    · rw [if_neg e, decide_eq_false e]) (fun p hp => absurd hp (by omega))
  exact ⟨C', R', hN, z1, z2, z3, z4, z5, z6, z7⟩
theorem op_badOnes {fu : Nat} (hfu : 70000 ≤ fu) (x1 : Int32) (hN : RN C R) (hE : RE C R) : ∃ v C' R', F_X11_badOnes fu x1 C = some (v, C') ∧ F_X12_badOnes fu x1 R = some (v, R') := by
  obtain ⟨lv, on, sn, ln, mn, tn, tl, kn, ⟨b1, b2, b3, b4, b5, b6, -⟩, ⟨c1, c2, c3, c4, c5, -⟩, ⟨r1, r2, r3, r4, r5, -⟩⟩ := hN
  unfold F_X11_badOnes F_X12_badOnes F_X7_badEvents
  rw [mach_eq (C := C) (R := xset R 0 0 0) b6 c5 r5]
  by_cases h1 : P_X5_isMachine x1 C = 0
  · exact ⟨-1, C, xset R 0 0 0, by rw [if_pos h1], by rw [if_pos h1]⟩
  rw [if_neg h1, if_neg h1]
  obtain ⟨m, hm, rfl⟩ := Classical.not_not.mp fun z => h1 ((mach0 b6 c5).mpr z)
  obtain ⟨N, t, q, v, C', R', hN, z1, z2, z3, z4, z5, z6, z7⟩ := seals_ok (m := m) (C := C) (R := xset R 0 0 0) hfu (by omega) hE
  rw [z1, z2]
  exact ⟨_, C', R', rfl, by rw [z5]; rfl⟩
theorem ow_loop (hm : m < 6) (hN : N ≤ 20) (hc : EVC C m N t q v) (hr : EVR R m N t q v) (ht : ∀ p, p ≤ N → tb (C 10 5) p = decide (¬ R 42 p = 0)) (ha : ∀ p, p ≤ N → R 43 p = plc q v p) (w f to : Int32) (fu : Nat) : ∀ (k i n1 n2 : Nat) (st pl sum : Int32), i + k = N + 1 → k < n1 → k < n2 → (i ≤ N → pl = plc q v i) → (i ≤ N → st = if i = 0 then 0 else t (i - 1)) →
    ∃ x, F_X7_openTime_b27 fu (nI m) w f to n1 (nI N) st pl sum (nI i) C = some (x, C) ∧ F_X12_openWithin_b11 fu (nI m) f to w n2 sum (nI i) R = some (x, R) := by
  intro k
  induction k with
  | zero =>
    intro i n1 n2 st pl sum hi h1 h2 hp hs
    obtain ⟨n1, rfl⟩ : ∃ z, n1 = z + 1 := ⟨n1 - 1, by omega⟩
    obtain ⟨n2, rfl⟩ : ∃ z, n2 = z + 1 := ⟨n2 - 1, by omega⟩
    have hlt : nI N < nI i := (nI_ltI (by omega) (by omega)).mpr (by omega)
    rw [F_X7_openTime_b27, if_pos hlt, F_X12_openWithin_b11, if_neg (idx_no hm (by decide)), nI_clamp (by omega), hr.1, if_pos hlt]
    exact ⟨_, rfl, rfl⟩
  | succ k ih =>
    intro i n1 n2 st pl sum hi h1 h2 hp hs
    obtain ⟨n1, rfl⟩ : ∃ z, n1 = z + 1 := ⟨n1 - 1, by omega⟩
    obtain ⟨n2, rfl⟩ : ∃ z, n2 = z + 1 := ⟨n2 - 1, by omega⟩
    have hiN : i ≤ N := by omega
    have hnlt : ¬ nI N < nI i := nI_nlt (by omega) (by omega)
    obtain rfl := hp hiN
    have hst := hs hiN
    have k1 : ∀ x, F_X12_openWithin_b45 fu (nI m) f to w (F_X12_openWithin_b11 fu (nI m) f to w n2) sum (nI i) x R = F_X12_openWithin_b76 fu (nI m) f to w (F_X12_openWithin_b11 fu (nI m) f to w n2) sum (nI i) x (if i = N then 9999 else t i) R := by
      intro x
      unfold F_X12_openWithin_b45
      rw [if_neg (idx_no hm (by decide)), nI_clamp (by omega), hr.1]
      by_cases e : i = N
      · rw [if_pos (by rw [e]), if_pos e]
      · rw [if_neg (fun z => e ((nI_eq (by omega) (by omega)).mp z)), if_neg e, cnt20b, if_neg (idx_no (show m * 20 + i < 120 by omega) (by decide)), nI_clamp (by omega), (hr.2 i (by omega)).1]
    have k2 : F_X12_openWithin_b11 fu (nI m) f to w (n2 + 1) sum (nI i) R = F_X12_openWithin_b76 fu (nI m) f to w (F_X12_openWithin_b11 fu (nI m) f to w n2) sum (nI i) st (if i = N then 9999 else t i) R := by
      rw [F_X12_openWithin_b11, if_neg (idx_no hm (by decide)), nI_clamp (by omega), hr.1, if_neg hnlt, k1, k1, hst]
      by_cases e : i = 0
      · subst e
        rw [if_pos (show nI 0 = 0 from rfl), if_pos rfl]
      · rw [if_neg (nI_ne0 (by omega) (by omega)), if_neg e, cnt20b, sub1 (by omega), if_neg (idx_no (show m * 20 + i - 1 < 120 by omega) (by decide)), nI_clamp (by omega)]
        have := (hr.2 (i - 1) (by omega)).1
        rw [show m * 20 + (i - 1) = m * 20 + i - 1 by omega] at this
        rw [this]
    have k3 : F_X7_openTime_b27 fu (nI m) w f to (n1 + 1) (nI N) st (plc q v i) sum (nI i) C = F_X7_openTime_b65 fu (nI m) w f to (F_X7_openTime_b27 fu (nI m) w f to n1) (nI N) st (plc q v i) sum (nI i) (nI (m * 20 + i)) (if i = N then 9999 else t i) C := by
      rw [F_X7_openTime_b27, if_neg hnlt, cnt20a]
      by_cases e : i = N
      · rw [if_pos (nI_le (by omega) (by omega)), if_pos e]
      · rw [if_neg (nI_ge (by omega) (by omega)), if_neg e, at_ok (show m * 20 + i < 120 by omega) (by decide), (hc.2 i (by omega)).1]
    have k4 : ∀ y z, F_X7_openTime_b108 fu (nI m) w f to (F_X7_openTime_b27 fu (nI m) w f to n1) (nI N) (plc q v i) y (nI i) (nI (m * 20 + i)) z C = F_X7_openTime_b27 fu (nI m) w f to n1 (nI N) z (if i = N then plc q v i else plc q v (i + 1)) y (nI (i + 1)) C := by
      intro y z
      unfold F_X7_openTime_b108 F_X7_openTime_b143
      by_cases e : i = N
      · rw [if_pos (nI_le (by omega) (by omega)), if_pos e, add1]
      · rw [if_neg (nI_ge (by omega) (by omega)), if_neg e, at_ok (show m * 20 + i < 120 by omega) (by decide), at_ok (show m * 20 + i < 120 by omega) (by decide), (hc.2 i (by omega)).2.1, (hc.2 i (by omega)).2.2, add1, plc]
        by_cases e3 : q i = 3
        · rw [if_pos e3, if_pos e3]
        · rw [if_neg e3, if_neg e3]
    rw [k3, k2]
    unfold F_X7_openTime_b65 F_X12_openWithin_b76 F_X12_openWithin_b122
    rw [has_tb (by omega), ht i hiN, nI_clamp (by omega), if_neg (idx_no2 (show i < 21 by omega) (by decide)), if_neg (idx_no2 (show i < 21 by omega) (by decide)), ha i hiN, k4, k4, add1]
    have fin : ∀ y, ∃ x, F_X7_openTime_b27 fu (nI m) w f to n1 (nI N) (if i = N then 9999 else t i) (if i = N then plc q v i else plc q v (i + 1)) y (nI (i + 1)) C = some (x, C) ∧ F_X12_openWithin_b11 fu (nI m) f to w n2 y (nI (i + 1)) R = some (x, R) := by
      intro y
      refine ih (i + 1) n1 n2 _ _ y (by omega) (by omega) (by omega) (fun z => ?_) (fun z => ?_)
      · rw [if_neg (by omega)]
      · rw [if_neg (by omega), if_neg (by omega)]
        rfl
    by_cases h0 : R 42 i = 0
    · rw [decide_eq_false (fun z => z h0), if_neg (show ¬ (false = true) by decide), if_pos rfl, if_pos h0]
      exact fin _
    · rw [decide_eq_true h0, if_pos rfl, if_neg (show ¬ ((1 : Int32) = 0) by decide), if_neg h0]
      by_cases h5 : plc q v i = w
      · rw [if_pos h5, if_pos h5]
        exact fin _
      · rw [if_neg h5, if_neg h5, jmin_comm to, jmax_comm f]
        exact fin _
theorem ow_ok {fu : Nat} (hfu : 70000 ≤ fu) (hm : m < 6) (hE : RE C R) (w f to : Int32) : ∃ x C' R', F_X7_openTime fu (nI m) w f to C = some (x, C') ∧ F_X12_openWithin fu (nI m) f to w R = some (x, R') := by
  obtain ⟨N, t, q, v, C', R', hN, z1, z2, z3, z4, z5, z6, z7⟩ := seals_ok (m := m) (C := C) (R := R) hfu hm hE
  obtain ⟨x, e1, e2⟩ := ow_loop hm hN z3 z4 z6 z7 w f to fu (N + 1) 0 fu fu 0 0 0 (by omega) (by omega) (by omega) (fun _ => rfl) (fun _ => rfl)
  unfold F_X7_openTime F_X12_openWithin
  rw [z1, z2]
  simp only [Option.bind_some, at_ok hm (show 6 ≤ 1000000 by decide), z3.1]
  exact ⟨x, C', R', e1, e2⟩
theorem span_eq {a b : Int32} {M M' : xM} : P_X12_isSpan a b M = P_X7_isSpan a b M' := by
  unfold P_X12_isSpan P_X7_isSpan P_X7_isTime
  simp only [isIn_eq (N := M')]
  by_cases h : P_X1_within a 0 9999 M' = 0
  · rw [if_pos h, if_pos h]
  rw [if_neg h, if_neg h]
  obtain ⟨j, hj, rfl⟩ := Classical.not_not.mp fun z => h ((within0n (n := 9999) (by decide)).mpr z)
  rw [add1]
  by_cases h2 : P_X1_within b 0 9999 M' = 0
  · rw [if_pos h2, if_pos]
    rw [within0] at h2 ⊢
    exact fun z => h2 ⟨Int32.le_trans (show (0 : Int32) ≤ nI (j + 1) from nI_le (a := 0) (by omega) (by omega)) z.1, z.2⟩
  rw [if_neg h2]
  obtain ⟨i, hi, rfl⟩ := Classical.not_not.mp fun z => h2 ((within0n (n := 9999) (by decide)).mpr z)
  have e1 : nI i ≤ nI j ↔ i ≤ j := nI_leI (by omega) (by omega)
  have e2 : nI (j + 1) ≤ nI i ↔ j + 1 ≤ i := nI_leI (by omega) (by omega)
  have e3 : nI i ≤ (9999 : Int32) := nI_le (b := 9999) (by omega) (by decide)
  by_cases h3 : i ≤ j
  · rw [if_pos (e1.mpr h3), if_pos]
    rw [within0]
    exact fun z => by have := e2.mp z.1; omega
  · rw [if_neg (fun z => h3 (e1.mp z)), if_neg]
    rw [within0]
    exact fun z => z ⟨e2.mpr (by omega), e3⟩
theorem op_exposed {fu : Nat} (hfu : 70000 ≤ fu) (x1 x2 x3 : Int32) (hN : RN C R) (hE : RE C R) : ∃ v C' R', F_X11_exposed fu x1 x2 x3 C = some (v, C') ∧ F_X12_exposed fu x1 x2 x3 R = some (v, R') := by
  obtain ⟨lv, on, sn, ln, mn, tn, tl, kn, ⟨b1, b2, b3, b4, b5, b6, -⟩, ⟨c1, c2, c3, c4, c5, -⟩, ⟨r1, r2, r3, r4, r5, -⟩⟩ := hN
  unfold F_X11_exposed F_X12_exposed
  rw [mach_eq (C := C) (R := xset R 0 0 0) b6 c5 r5, span_eq (M' := C)]
  by_cases h1 : P_X5_isMachine x1 C = 0
  · exact ⟨-1, C, xset R 0 0 0, by rw [if_pos h1], by rw [if_pos h1]⟩
  rw [if_neg h1, if_neg h1]
  by_cases h2 : P_X7_isSpan x2 x3 C = 0
  · exact ⟨-1, C, xset R 0 0 0, by rw [if_pos h2], by rw [if_pos h2]⟩
  rw [if_neg h2, if_neg h2]
  obtain ⟨m, hm, rfl⟩ := Classical.not_not.mp fun z => h1 ((mach0 b6 c5).mpr z)
  obtain ⟨x, C', R', e1, e2⟩ := ow_ok (C := C) (R := xset R 0 0 0) hfu (show m < 6 by omega) hE (-1) x2 x3
  rw [e1, e2]
  exact ⟨x, C', R', rfl, rfl⟩
theorem op_alone {fu : Nat} (hfu : 70000 ≤ fu) (x1 x2 x3 x4 : Int32) (hN : RN C R) (hE : RE C R) : ∃ v C' R', F_X11_alone fu x1 x2 x3 x4 C = some (v, C') ∧ F_X12_alone fu x1 x2 x3 x4 R = some (v, R') := by
  obtain ⟨lv, on, sn, ln, mn, tn, tl, kn, ⟨b1, b2, b3, b4, b5, b6, -⟩, ⟨c1, c2, c3, c4, c5, -⟩, ⟨r1, r2, r3, r4, r5, -⟩⟩ := hN
  unfold F_X11_alone F_X12_alone P_X7_isPlace
  rw [mach_eq (C := C) (R := xset R 0 0 0) b6 c5 r5, span_eq (M' := C), isIn_eq (N := C)]
  by_cases h1 : P_X5_isMachine x1 C = 0
  · exact ⟨-1, C, xset R 0 0 0, by rw [if_pos h1], by rw [if_pos h1]⟩
  rw [if_neg h1, if_neg h1]
  by_cases h2 : P_X7_isSpan x3 x4 C = 0
  · refine ⟨-1, C, xset R 0 0 0, by rw [if_pos h2], ?_⟩
    rw [if_pos h2]
    split <;> rfl
  rw [if_neg h2, if_neg h2]
  by_cases h3 : P_X1_within x2 0 9 C = 0
  · exact ⟨-1, C, xset R 0 0 0, by rw [if_pos h3], by rw [if_pos h3]⟩
  rw [if_neg h3, if_neg h3]
  obtain ⟨m, hm, rfl⟩ := Classical.not_not.mp fun z => h1 ((mach0 b6 c5).mpr z)
  obtain ⟨x, C', R', e1, e2⟩ := ow_ok (C := C) (R := xset R 0 0 0) hfu (show m < 6 by omega) hE x2 x3 x4
  rw [e1, e2]
  exact ⟨x, C', R', rfl, rfl⟩
end SEALS2
