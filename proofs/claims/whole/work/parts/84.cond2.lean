/-! CONDITIONS, the loops -/
section CONDS2
variable {C R : xM} {N : Nat} {t : Nat → Nat} {r b n1 : Nat} {fu d : Nat} {g1 g2 : Int32 → Int32 → Int32 → xM → Option (Int32 × xM)} {h1 k1 : xM → Option (Int32 × xM)} {h2 h3 k2 k3 : Int32 → Int32 → xM → Option (Int32 × xM)}
theorem b120_eq (x1 x2 x3 x4 x5 : Int32) (M : xM) : F_X3_condition_b120 fu g1 g2 x1 x2 x3 x4 x5 M = some (orv x4 x5, M) := by
  unfold F_X3_condition_b120 F_X3_condition_b130 orv
  by_cases a : x4 = 0
  · rw [if_pos a, if_pos a]
    by_cases e : x5 = 0
    · rw [if_pos e, if_pos e]
    · rw [if_neg e, if_neg e]
  · rw [if_neg a, if_neg a]
theorem K_bad (hC : CT C N t) (hfu : 70000 ≤ fu) {f : Nat} (hf : f ≤ N) {M : xM} (h : Bd C N t f M) (x1 x2 x3 x4 x5 x6 : Int32) (n : Nat) : F_X3_condition_b15 fu g1 g2 x1 x2 x3 (n + 1) x4 x5 x6 M = some (orv x4 x5, M) := by
  obtain ⟨x, hx, hn⟩ := bd_next hC hfu hf h
  rw [F_X3_condition_b15, b120_eq]
  by_cases z : M 4 3 ≤ x6
  · rw [if_pos z]
  · rw [if_neg z, hn]
    simp only [Option.bind_some]
    rw [if_neg (show ¬ x = 38 from noop_ne hx (c := 38) (by decide) (by decide)), if_neg (show ¬ x = 124 from noop_ne hx (c := 124) (by decide) (by decide)), b120_eq]
theorem K_exit (hC : CT C N t) (hfu : 70000 ≤ fu) {p x6 : Nat} (hp : p ≤ N) (h5 : x6 ≤ p) (a1 : ¬ chr N t (sk N t p) = 38) (a2 : ¬ chr N t (sk N t p) = 124) (x1 x2 x3 x4 x5 : Int32) (n : Nat) : F_X3_condition_b15 fu g1 g2 x1 x2 x3 (n + 1) x4 x5 (nI x6) (cst C p (-1)) = some (orv x4 x5, cst C (sk N t p) (-1)) := by
  have hN := hC.1
  rw [F_X3_condition_b15, cst_43, hC.2.1, b120_eq]
  by_cases z : N ≤ x6
  · rw [if_pos (nI_le z (by omega)), sk_id (show p < N → ¬ t p = 32 from fun y => by omega)]
  · rw [if_neg (show ¬ nI N ≤ nI x6 from nI_ge (by omega) (by omega)), next_ok hC hfu hp]
    simp only [Option.bind_some]
    rw [if_neg a1, if_neg a2, b120_eq]
theorem K_and (hC : CT C N t) (hfu : 70000 ≤ fu) {p x6 : Nat} (hp : p ≤ N) (h5 : x6 ≤ p) (e : chr N t (sk N t p) = 38) (x1 x2 x3 x4 x5 : Int32) (n : Nat) : F_X3_condition_b15 fu g1 g2 x1 x2 x3 (n + 1) x4 x5 (nI x6) (cst C p (-1)) = (g2 x1 0 0 (cst C (sk N t p + 1) (-1))).bind fun q1 => F_X3_condition_b15 fu g1 g2 x1 x2 x3 n x4 (andv x5 q1.1) (nI (x6 + 1)) q1.2 := by
  have hN := hC.1
  have hge := sk_ge (t := t) hp
  have hlt : sk N t p < N := chr_lt (c := 38) e (by decide)
  rw [F_X3_condition_b15, cst_43, hC.2.1, if_neg (show ¬ nI N ≤ nI x6 from nI_ge (by omega) (by omega)), next_ok hC hfu hp]
  simp only [Option.bind_some, e, F_X3_condition_b47, F_X3_condition_b87, F_X3_condition_b88, F_X3_condition_b114, cst_44, add1, cst_s4, if_true]
  congr 1
  funext q1
  unfold andv
  by_cases a : x5 = 0
  · rw [if_pos a, if_pos a]
  · rw [if_neg a, if_neg a]
    by_cases a2 : q1.1 = 0
    · rw [if_pos a2, if_pos a2]
    · rw [if_neg a2, if_neg a2]
theorem K_or (hC : CT C N t) (hfu : 70000 ≤ fu) {p x6 : Nat} (hp : p ≤ N) (h5 : x6 ≤ p) (e : chr N t (sk N t p) = 124) (x1 x2 x3 x4 x5 : Int32) (n : Nat) : F_X3_condition_b15 fu g1 g2 x1 x2 x3 (n + 1) x4 x5 (nI x6) (cst C p (-1)) = (g2 x1 0 0 (cst C (sk N t p + 1) (-1))).bind fun q1 => F_X3_condition_b15 fu g1 g2 x1 x2 x3 n (orv x4 x5) q1.1 (nI (x6 + 1)) q1.2 := by
  have hN := hC.1
  have hge := sk_ge (t := t) hp
  have hlt : sk N t p < N := chr_lt (c := 124) e (by decide)
  rw [F_X3_condition_b15, cst_43, hC.2.1, if_neg (show ¬ nI N ≤ nI x6 from nI_ge (by omega) (by omega)), next_ok hC hfu hp]
  simp only [Option.bind_some, e, F_X3_condition_b47, F_X3_condition_b103, F_X3_condition_b108, F_X3_condition_b114, cst_44, add1, cst_s4, if_true, if_neg (show ¬ (124 : Int32) = 38 by decide)]
  congr 1
  funext q1
  unfold orv
  by_cases a : x4 = 0
  · rw [if_pos a, if_pos a]
    by_cases a2 : x5 = 0
    · rw [if_pos a2, if_pos a2]
    · rw [if_neg a2, if_neg a2]
  · rw [if_neg a, if_neg a]
theorem K_sk (hC : CT C N t) (hfu : 70000 ≤ fu) {p x6 : Nat} (hp : p ≤ N) (h5 : x6 ≤ p) (x1 x2 x3 x4 x5 : Int32) (n : Nat) : F_X3_condition_b15 fu g1 g2 x1 x2 x3 (n + 1) x4 x5 (nI x6) (cst C p (-1)) = F_X3_condition_b15 fu g1 g2 x1 x2 x3 (n + 1) x4 x5 (nI x6) (cst C (sk N t p) (-1)) := by
  have hN := hC.1
  by_cases z : N ≤ x6
  · rw [sk_id (show p < N → ¬ t p = 32 from fun y => by omega)]
  · rw [F_X3_condition_b15, F_X3_condition_b15, cst_43, cst_43, hC.2.1, if_neg (show ¬ nI N ≤ nI x6 from nI_ge (by omega) (by omega)), if_neg (show ¬ nI N ≤ nI x6 from nI_ge (by omega) (by omega)), next_ok hC hfu hp, next_ok hC hfu (sk_le hp), sk_sk hp]
/-- the reference's PART, a step and its ends -/
theorem part_step (hR : RX' R N t r b n1) (hfu : 70000 ≤ fu) {p : Nat} (hp : p ≤ N) (y1 y2 w : Int32) (hw : WB w) (m : Nat) : F_X12_part_b18 fu k1 k2 k3 y1 y2 (m + 1) w (rst R p (-1) d) = if chr N t (sk N t p) = 38 then (k1 (rst R (sk N t p + 1) (-1) d)).bind fun q2 => F_X12_part_b18 fu k1 k2 k3 y1 y2 m (andv w q2.1) q2.2 else some (w, rst R (sk N t p) (-1) d) := by
  rw [F_X12_part_b18, rst_21, if_pos rfl, look_ok hR hfu hp]
  simp only [Option.bind_some]
  by_cases h : chr N t (sk N t p) = 38
  · rw [if_pos h, if_pos h, rst_20, add1, rst_s20]
    congr 1
    funext q2
    unfold F_X12_part_b64 F_X12_part_b65 andv
    by_cases a : w = 0
    · rw [if_pos a, if_pos a]
    · rw [if_neg a, if_neg a]
      by_cases a2 : q2.1 = 0
      · rw [if_pos a2, if_pos a2]
      · rw [if_neg a2, if_neg a2]
  · rw [if_neg h, if_neg h, if_pos (wb_or hw)]
theorem part_bad {p f : Nat} (hf : f ≤ 120) (y1 y2 w : Int32) (hw : WB w) (m : Nat) : F_X12_part_b18 fu k1 k2 k3 y1 y2 (m + 1) w (rst R p (nI f) d) = some (w, rst R p (nI f) d) := by
  rw [F_X12_part_b18, rst_21, if_neg (nIm1 (by omega)), if_pos (wb_or hw)]
theorem cond_step (hR : RX' R N t r b n1) (hfu : 70000 ≤ fu) {p : Nat} (hp : p ≤ N) (y1 y2 w : Int32) (hw : WB w) (m : Nat) : F_X12_condition_b7 fu h1 h2 h3 y1 y2 (m + 1) w (rst R p (-1) d) = if chr N t (sk N t p) = 124 then (h2 0 0 (rst R (sk N t p + 1) (-1) d)).bind fun q2 => F_X12_condition_b7 fu h1 h2 h3 y1 y2 m (orv w q2.1) q2.2 else some (w, rst R (sk N t p) (-1) d) := by
  rw [F_X12_condition_b7, rst_21, if_pos rfl, look_ok hR hfu hp]
  simp only [Option.bind_some]
  by_cases h : chr N t (sk N t p) = 124
  · rw [if_pos h, if_pos h, rst_20, add1, rst_s20]
    congr 1
    funext q2
    unfold F_X12_condition_b51 F_X12_condition_b56 orv
    by_cases a : w = 0
    · rw [if_pos a, if_pos a]
      by_cases a2 : q2.1 = 0
      · rw [if_pos a2, if_pos a2]
      · rw [if_neg a2, if_neg a2]
    · rw [if_neg a, if_neg a]
  · rw [if_neg h, if_neg h, if_pos (wb_or hw)]
theorem cond_bad {p f : Nat} (hf : f ≤ 120) (y1 y2 w : Int32) (hw : WB w) (m : Nat) : F_X12_condition_b7 fu h1 h2 h3 y1 y2 (m + 1) w (rst R p (nI f) d) = some (w, rst R p (nI f) d) := by
  rw [F_X12_condition_b7, rst_21, if_neg (nIm1 (by omega)), if_pos (wb_or hw)]
theorem pl (hC : CT C N t) (hR : RX' R N t r b n1) (hfu : 70000 ≤ fu) (hA : ∀ p, p ≤ N → Out C R N t WB (VB C R) d p (g2 (nI d) 0 0 (cst C p (-1))) (k1 (rst R p (-1) d))) (x2 x3 y1 y2 : Int32) : ∀ (K p n m x6 : Nat) (x4 v w : Int32), N - p ≤ K → p ≤ N → x6 ≤ p → N - p < n → N - p < m → WB v → WB w → VB C R v w →
    (∃ q v' w' x6' n', p ≤ q ∧ q ≤ N ∧ x6' ≤ q ∧ N - q < n' ∧ F_X3_condition_b15 fu g1 g2 (nI d) x2 x3 n x4 v (nI x6) (cst C p (-1)) = F_X3_condition_b15 fu g1 g2 (nI d) x2 x3 n' x4 v' (nI x6') (cst C q (-1)) ∧ F_X12_part_b18 fu k1 k2 k3 y1 y2 m w (rst R p (-1) d) = some (w', rst R q (-1) d) ∧ WB v' ∧ WB w' ∧ VB C R v' w' ∧ sk N t q = q ∧ ¬ chr N t q = 38) ∨
    (∃ v1 M w1 q e f, f ≤ N ∧ F_X3_condition_b15 fu g1 g2 (nI d) x2 x3 n x4 v (nI x6) (cst C p (-1)) = some (v1, M) ∧ Bd C N t f M ∧ F_X12_part_b18 fu k1 k2 k3 y1 y2 m w (rst R p (-1) d) = some (w1, rst R q (nI f) e) ∧ WB v1 ∧ WB w1) := by
  have hN := hC.1
  intro K
  induction K with
  | zero =>
    intro p n m x6 x4 v w hK hp h5 hn hm hv hw hV
    obtain ⟨n, rfl⟩ : ∃ z, n = z + 1 := ⟨n - 1, by omega⟩
    obtain ⟨m, rfl⟩ : ∃ z, m = z + 1 := ⟨m - 1, by omega⟩
    have e1 : chr N t p = -1 := chr_out (by omega)
    have e2 : sk N t p = p := sk_id (fun y => by omega)
    rw [part_step hR hfu hp _ _ _ hw, e2, if_neg (by rw [e1]; decide)]
    exact Or.inl ⟨p, v, w, x6, n + 1, Nat.le_refl p, hp, h5, by omega, rfl, rfl, hv, hw, hV, e2, by rw [e1]; decide⟩
  | succ K ih =>
    intro p n m x6 x4 v w hK hp h5 hn hm hv hw hV
    obtain ⟨n, rfl⟩ : ∃ z, n = z + 1 := ⟨n - 1, by omega⟩
    obtain ⟨m, rfl⟩ : ∃ z, m = z + 1 := ⟨m - 1, by omega⟩
    have hge := sk_ge (t := t) hp
    have hle := sk_le (t := t) hp
    rw [part_step hR hfu hp _ _ _ hw]
    by_cases e38 : chr N t (sk N t p) = 38
    · have hlt : sk N t p < N := chr_lt (c := 38) e38 (by decide)
      rw [if_pos e38, K_and hC hfu hp h5 e38]
      rcases hA (sk N t p + 1) (by omega) with ⟨v0, w0, q2, z1, z2, e1, e2, _, _, hV0⟩ | ⟨v0, M, w0, q2, e', f, hf, e1, hB, e2, _, _⟩
      · rw [e1, e2]
        simp only [Option.bind_some]
        rcases ih q2 n m (x6 + 1) x4 (andv v v0) (andv w w0) (by omega) z2 (by omega) (by omega) (by omega) (andv_b _ _) (andv_b _ _) (fun hE => by rw [hV hE, hV0 hE]) with ⟨q, v', w'', x5', n', y1, y2⟩ | y
        · exact Or.inl ⟨q, v', w'', x5', n', by omega, y2⟩
        · exact Or.inr y
      · obtain ⟨n, rfl⟩ : ∃ z, n = z + 1 := ⟨n - 1, by omega⟩
        obtain ⟨m, rfl⟩ : ∃ z, m = z + 1 := ⟨m - 1, by omega⟩
        rw [e1, e2]
        simp only [Option.bind_some]
        rw [K_bad hC hfu hf hB, part_bad (by omega) _ _ _ (andv_b _ _)]
        exact Or.inr ⟨_, M, _, q2, e', f, hf, rfl, hB, rfl, orv_b _ _, andv_b _ _⟩
    · rw [if_neg e38]
      exact Or.inl ⟨sk N t p, v, w, x6, n + 1, hge, hle, by omega, by omega, K_sk hC hfu hp h5 _ _ _ _ _ _, rfl, hv, hw, hV, sk_sk hp, e38⟩
theorem cl (hC : CT C N t) (hR : RX' R N t r b n1) (hfu : 70000 ≤ fu) (hA : ∀ p, p ≤ N → Out C R N t WB (VB C R) d p (g2 (nI d) 0 0 (cst C p (-1))) (k1 (rst R p (-1) d))) (hT : ∀ M, h2 0 0 M = F_X12_part fu k1 k2 k3 0 0 M) (x2 x3 y1 y2 : Int32) : ∀ (K p n m x6 : Nat) (x4 x5 w : Int32), N - p ≤ K → p ≤ N → x6 ≤ p → N - p < n → N - p < m → sk N t p = p → ¬ chr N t p = 38 → WB w → (EB C R → orv x4 x5 = w) →
    Out C R N t WB (VB C R) d p (F_X3_condition_b15 fu g1 g2 (nI d) x2 x3 n x4 x5 (nI x6) (cst C p (-1))) (F_X12_condition_b7 fu h1 h2 h3 y1 y2 m w (rst R p (-1) d)) := by
  have hN := hC.1
  intro K
  induction K with
  | zero =>
    intro p n m x6 x4 x5 w hK hp h5 hn hm hs a1 hw hV
    obtain ⟨n, rfl⟩ : ∃ z, n = z + 1 := ⟨n - 1, by omega⟩
    obtain ⟨m, rfl⟩ : ∃ z, m = z + 1 := ⟨m - 1, by omega⟩
    have e1 : chr N t p = -1 := chr_out (by omega)
    rw [K_exit hC hfu hp h5 (by rw [hs, e1]; decide) (by rw [hs, e1]; decide), cond_step hR hfu hp _ _ _ hw, hs, if_neg (by rw [e1]; decide)]
    exact Or.inl ⟨_, _, p, Nat.le_refl p, hp, rfl, rfl, orv_b _ _, hw, hV⟩
  | succ K ih =>
    intro p n m x6 x4 x5 w hK hp h5 hn hm hs a1 hw hV
    obtain ⟨n, rfl⟩ : ∃ z, n = z + 1 := ⟨n - 1, by omega⟩
    obtain ⟨m, rfl⟩ : ∃ z, m = z + 1 := ⟨m - 1, by omega⟩
    rw [cond_step hR hfu hp _ _ _ hw, hs]
    by_cases e : chr N t p = 124
    · have hlt : p < N := chr_lt (c := 124) e (by decide)
      rw [if_pos e, K_or hC hfu hp h5 (by rw [hs]; exact e), hs, hT, F_X12_part, if_pos rfl]
      rcases hA (p + 1) (by omega) with ⟨v0, w0, q2, z1, z2, e1, e2, hv0, hw0, hV0⟩ | ⟨v0, M, w0, q2, e', f, hf, e1, hB, e2, hv0, hw0⟩
      · rw [e1, e2]
        simp only [Option.bind_some, F_X12_part_b17]
        rcases pl (g1 := g1) (k2 := k2) (k3 := k3) hC hR hfu hA x2 x3 0 0 N q2 n fu (x6 + 1) (orv x4 x5) v0 w0 (by omega) z2 (by omega) (by omega) (by omega) hv0 hw0 hV0 with ⟨q, v', w', x6', n', y1, y2, y3, y4, y5, y6, yv, yw, y7, y8, y9⟩ | ⟨v1, M, w1, q, e', f, hf, y5, hB, y6, yv, yw⟩
        · rw [y5, y6]
          simp only [Option.bind_some]
          exact (ih q n' m x6' (orv x4 x5) v' (orv w w') (by omega) y2 y3 y4 (by omega) y8 y9 (orv_b _ _) (fun hE => by rw [hV hE, y7 hE])).le (by omega)
        · obtain ⟨m, rfl⟩ : ∃ z, m = z + 1 := ⟨m - 1, by omega⟩
          rw [y5, y6]
          simp only [Option.bind_some]
          rw [cond_bad (by omega) _ _ _ (orv_b _ _)]
          exact Or.inr ⟨v1, M, _, q, e', f, hf, rfl, hB, rfl, yv, orv_b _ _⟩
      · obtain ⟨n, rfl⟩ : ∃ z, n = z + 1 := ⟨n - 1, by omega⟩
        obtain ⟨m, rfl⟩ : ∃ z, m = z + 1 := ⟨m - 1, by omega⟩
        obtain ⟨z, hz⟩ : ∃ z, fu = z + 1 := ⟨fu - 1, by omega⟩
        have e4 : F_X12_part_b18 fu k1 k2 k3 0 0 fu w0 (rst R q2 (nI f) e') = some (w0, rst R q2 (nI f) e') := by
          have := part_bad (R := R) (fu := fu) (k1 := k1) (k2 := k2) (k3 := k3) (d := e') (p := q2) (f := f) (by omega) 0 0 w0 hw0 z
          rw [← hz] at this
          exact this
        rw [e1, e2]
        simp only [Option.bind_some, F_X12_part_b17]
        rw [K_bad hC hfu hf hB, e4]
        simp only [Option.bind_some]
        rw [cond_bad (by omega) _ _ _ (orv_b _ _)]
        exact Or.inr ⟨_, M, _, q2, e', f, hf, rfl, hB, rfl, orv_b _ _, orv_b _ _⟩
    · rw [if_neg e, K_exit hC hfu hp h5 (by rw [hs]; exact a1) (by rw [hs]; exact e), hs]
      exact Or.inl ⟨_, _, p, Nat.le_refl p, hp, rfl, rfl, orv_b _ _, hw, hV⟩
theorem cond_ok (hC : CT C N t) (hR : RX' R N t r b n1) (hfu : 70000 ≤ fu) (hA : ∀ p, p ≤ N → Out C R N t WB (VB C R) d p (g2 (nI d) 0 0 (cst C p (-1))) (k1 (rst R p (-1) d))) (hT : ∀ M, h2 0 0 M = F_X12_part fu k1 k2 k3 0 0 M) {x2 x3 y1 y2 : Int32} {FU : Option (Int32 × xM)} {p : Nat} (hp : p ≤ N) (hF : Out C R N t WB (VB C R) d p (g2 (nI d) x2 x3 (cst C p (-1))) FU) (hT2 : h2 y1 y2 (rst R p (-1) d) = FU.bind fun q1 => F_X12_part_b17 fu k1 k2 k3 y1 y2 q1.1 q1.2) : Out C R N t WB (VB C R) d p (F_X3_condition fu g1 g2 (nI d) x2 x3 (cst C p (-1))) (F_X12_condition fu h1 h2 h3 y1 y2 (rst R p (-1) d)) := by
  have hN := hC.1
  obtain ⟨z, hz⟩ : ∃ z, fu = z + 1 := ⟨fu - 1, by omega⟩
  unfold F_X3_condition F_X12_condition
  rw [hT2]
  rcases hF with ⟨v0, w0, q2, z1, z2, e1, e2, hv0, hw0, hV0⟩ | ⟨v0, M, w0, q2, e', f, hf, e1, hB, e2, hv0, hw0⟩
  · rw [e1, e2]
    simp only [Option.bind_some, F_X12_part_b17]
    rcases pl (g1 := g1) (k2 := k2) (k3 := k3) hC hR hfu hA x2 x3 y1 y2 N q2 fu fu 0 0 v0 w0 (by omega) z2 (by omega) (by omega) (by omega) hv0 hw0 hV0 with ⟨q, v', w', x6', n', y1, y2, y3, y4, y5, y6, yv, yw, y7, y8, y9⟩ | ⟨v1, M, w1, q, e', f, hf, y5, hB, y6, yv, yw⟩
    · rw [show F_X3_condition_b15 fu g1 g2 (nI d) x2 x3 fu 0 v0 0 (cst C q2 (-1)) = _ from y5, y6]
      simp only [Option.bind_some]
      exact (cl hC hR hfu hA hT x2 x3 _ _ N q n' fu x6' 0 v' w' (by omega) y2 y3 y4 (by omega) y8 y9 yw (fun hE => by rw [orv0 yv, y7 hE])).le (by omega)
    · have e4 : F_X12_condition_b7 fu h1 h2 h3 y1 y2 fu w1 (rst R q (nI f) e') = some (w1, rst R q (nI f) e') := by
        have := cond_bad (R := R) (fu := fu) (h1 := h1) (h2 := h2) (h3 := h3) (d := e') (p := q) (f := f) (by omega) y1 y2 w1 yw z
        rw [← hz] at this
        exact this
      rw [show F_X3_condition_b15 fu g1 g2 (nI d) x2 x3 fu 0 v0 0 (cst C q2 (-1)) = _ from y5, y6]
      simp only [Option.bind_some]
      rw [e4]
      exact Or.inr ⟨v1, M, _, q, e', f, hf, rfl, hB, rfl, yv, yw⟩
  · have e4 : F_X12_part_b18 fu k1 k2 k3 y1 y2 fu w0 (rst R q2 (nI f) e') = some (w0, rst R q2 (nI f) e') := by
      have := part_bad (R := R) (fu := fu) (k1 := k1) (k2 := k2) (k3 := k3) (d := e') (p := q2) (f := f) (by omega) y1 y2 w0 hw0 z
      rw [← hz] at this
      exact this
    have e5 : F_X12_condition_b7 fu h1 h2 h3 y1 y2 fu w0 (rst R q2 (nI f) e') = some (w0, rst R q2 (nI f) e') := by
      have := cond_bad (R := R) (fu := fu) (h1 := h1) (h2 := h2) (h3 := h3) (d := e') (p := q2) (f := f) (by omega) y1 y2 w0 hw0 z
      rw [← hz] at this
      exact this
    have e6 := K_bad (g1 := g1) (g2 := g2) hC hfu hf hB (nI d) x2 x3 0 v0 0 z
    rw [← hz] at e6
    rw [e1, e2]
    simp only [Option.bind_some, F_X12_part_b17]
    rw [e6, e4]
    simp only [Option.bind_some]
    rw [e5]
    exact Or.inr ⟨_, M, _, q2, e', f, hf, rfl, hB, rfl, orv_b _ _, hw0⟩
theorem cond_main (hC : CT C N t) (hR : RX' R N t r b n1) (hfu : 70000 ≤ fu) : ∀ (e d : Nat), d + e = 6 →
    (∀ n m, 2 * e + 1 ≤ n → 3 * e + 1 ≤ m → ∀ p, p ≤ N → Out C R N t WB (VB C R) d p ((R_X3_condition_unit fu n).2 (nI d) 0 0 (cst C p (-1))) ((R_X12_unit_part_condition fu m).1 (rst R p (-1) d))) ∧
    (∀ n m, 2 * e + 2 ≤ n → 3 * e + 3 ≤ m → ∀ p, p ≤ N → Out C R N t WB (VB C R) d p ((R_X3_condition_unit fu n).1 (nI d) 0 0 (cst C p (-1))) ((R_X12_unit_part_condition fu m).2.2 0 0 (rst R p (-1) d))) := by
  intro e
  induction e with
  | zero =>
    intro d hd
    have hU : ∀ n m, 2 * 0 + 1 ≤ n → 3 * 0 + 1 ≤ m → ∀ p, p ≤ N → Out C R N t WB (VB C R) d p ((R_X3_condition_unit fu n).2 (nI d) 0 0 (cst C p (-1))) ((R_X12_unit_part_condition fu m).1 (rst R p (-1) d)) := by
      intro n m hn hm p hp
      obtain ⟨n, rfl⟩ : ∃ z, n = z + 1 := ⟨n - 1, by omega⟩
      obtain ⟨m, rfl⟩ : ∃ z, m = z + 1 := ⟨m - 1, by omega⟩
      exact unit_ok (h2 := (R_X12_unit_part_condition fu m).2.1) hC hR hfu (by omega) (fun z => absurd z (by omega)) (fun z => absurd z (by omega)) hp
    refine ⟨hU, fun n m hn hm p hp => ?_⟩
    obtain ⟨n, rfl⟩ : ∃ z, n = z + 1 := ⟨n - 1, by omega⟩
    obtain ⟨m, rfl⟩ : ∃ z, m = z + 2 := ⟨m - 2, by omega⟩
    exact cond_ok (k1 := (R_X12_unit_part_condition fu m).1) (k2 := (R_X12_unit_part_condition fu m).2.1) (k3 := (R_X12_unit_part_condition fu m).2.2) (x2 := 0) (x3 := 0) (y1 := 0) (y2 := 0) (h2 := (R_X12_unit_part_condition fu (m + 1)).2.1) (FU := (R_X12_unit_part_condition fu m).1 (rst R p (-1) d)) hC hR hfu (fun p hp => hU n m (by omega) (by omega) p hp) (fun M => rfl) hp (hU n m (by omega) (by omega) p hp) (by
      show F_X12_part fu _ _ _ 0 0 _ = _
      rw [F_X12_part, if_pos rfl])
  | succ e ih =>
    intro d hd
    obtain ⟨ih1, ih2⟩ := ih (d + 1) (by omega)
    have hU : ∀ n m, 2 * (e + 1) + 1 ≤ n → 3 * (e + 1) + 1 ≤ m → ∀ p, p ≤ N → Out C R N t WB (VB C R) d p ((R_X3_condition_unit fu n).2 (nI d) 0 0 (cst C p (-1))) ((R_X12_unit_part_condition fu m).1 (rst R p (-1) d)) := by
      intro n m hn hm p hp
      obtain ⟨n, rfl⟩ : ∃ z, n = z + 1 := ⟨n - 1, by omega⟩
      obtain ⟨m, rfl⟩ : ∃ z, m = z + 1 := ⟨m - 1, by omega⟩
      exact unit_ok (h2 := (R_X12_unit_part_condition fu m).2.1) hC hR hfu (by omega) (fun _ p hp => ih1 n m (by omega) (by omega) p hp) (fun _ p hp => ih2 n m (by omega) (by omega) p hp) hp
    refine ⟨hU, fun n m hn hm p hp => ?_⟩
    obtain ⟨n, rfl⟩ : ∃ z, n = z + 1 := ⟨n - 1, by omega⟩
    obtain ⟨m, rfl⟩ : ∃ z, m = z + 2 := ⟨m - 2, by omega⟩
    exact cond_ok (k1 := (R_X12_unit_part_condition fu m).1) (k2 := (R_X12_unit_part_condition fu m).2.1) (k3 := (R_X12_unit_part_condition fu m).2.2) (x2 := 0) (x3 := 0) (y1 := 0) (y2 := 0) (h2 := (R_X12_unit_part_condition fu (m + 1)).2.1) (FU := (R_X12_unit_part_condition fu m).1 (rst R p (-1) d)) hC hR hfu (fun p hp => hU n m (by omega) (by omega) p hp) (fun M => rfl) hp (hU n m (by omega) (by omega) p hp) (by
      show F_X12_part fu _ _ _ 0 0 _ = _
      rw [F_X12_part, if_pos rfl])
/-- a CONDITION at depth 0, not begun and begun -/
theorem condT0 (hC : CT C N t) (hR : RX' R N t r b n1) (hfu : 70000 ≤ fu) {p : Nat} (hp : p ≤ N) : Out C R N t WB (VB C R) 0 p (T_X3_condition fu 0 0 0 (cst C p (-1))) (T_X12_condition fu 0 0 (rst R p (-1) 0)) :=
  (cond_main hC hR hfu 6 0 (by omega)).2 30 30 (by omega) (by omega) p hp
theorem condT1 (hC : CT C N t) (hR : RX' R N t r b n1) (hfu : 70000 ≤ fu) {p : Nat} (hp : p ≤ N) {s0 s1 : Int32} (hs : EB C R → s0 = s1) : Out C R N t WB (VB C R) 0 p (T_X3_condition fu 0 1 s0 (cst C p (-1))) (T_X12_condition fu 1 s1 (rst R p (-1) 0)) := by
  have hU := (cond_main hC hR hfu 6 0 (by omega)).1 29 28 (by omega) (by omega)
  exact cond_ok (g1 := (R_X3_condition_unit fu 29).1) (g2 := (R_X3_condition_unit fu 29).2) (d := 0) (k1 := (R_X12_unit_part_condition fu 28).1) (k2 := (R_X12_unit_part_condition fu 28).2.1) (k3 := (R_X12_unit_part_condition fu 28).2.2) (x2 := 1) (x3 := s0) (y1 := 1) (y2 := s1) (h2 := (R_X12_unit_part_condition fu 29).2.1) (FU := F_X12_compares fu 1 s1 (rst R p (-1) 0)) hC hR hfu hU (fun M => rfl) hp (unit1_ok (g1 := (R_X3_condition_unit fu 28).1) (g2 := (R_X3_condition_unit fu 28).2) hC hR hfu (Nat.zero_le 6) hp hs) (by
    show F_X12_part fu _ _ _ 1 s1 _ = _
    rw [F_X12_part, if_neg (show ¬ ((1 : Int32) = 0) by decide)])
end CONDS2
