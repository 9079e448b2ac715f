/-! SUMS, the loops -/
section SUMS2
variable {C R : xM} {N : Nat} {t : Nat → Nat} {r b n1 : Nat} {fu d : Nat} {g1 g2 : Int32 → xM → Option (Int32 × xM)} {h1 h2 h3 k1 k2 k3 : xM → Option (Int32 × xM)}
theorem Bd.c43 {f : Nat} {M : xM} (h : Bd C N t f M) : M 4 3 = C 4 3 := by
  rcases h with ⟨p, rfl⟩ | ⟨rfl, _⟩ <;> rfl
theorem L_bad (hC : CT C N t) (hfu : 70000 ≤ fu) {f : Nat} (hf : f ≤ N) {M : xM} (h : Bd C N t f M) (x1 x2 x3 x4 x5 : Int32) (n : Nat) : ∃ v, F_X3_sum_b15 fu g1 g2 x1 (n + 1) x2 x3 x4 x5 M = some (v, M) := by
  refine ⟨rk x2 x3 x4, ?_⟩
  have e0 : F_X3_sum_b127 fu g1 g2 x1 x2 x3 x4 M = some (rk x2 x3 x4, M) := by
    unfold F_X3_sum_b127
    rw [reck_ok]
    rfl
  obtain ⟨x, hx, hn⟩ := bd_next hC hfu hf h
  rw [F_X3_sum_b15, e0]
  by_cases z : M 4 3 ≤ x5
  · rw [if_pos z]
  · rw [if_neg z, hn]
    simp only [Option.bind_some]
    rw [if_neg (show ¬ x = 43 from noop_ne hx (c := 43) (by decide) (by decide)), if_neg (show ¬ x = 45 from noop_ne hx (c := 45) (by decide) (by decide)), if_neg (show ¬ x = 42 from noop_ne hx (c := 42) (by decide) (by decide)), if_neg (show ¬ x = 47 from noop_ne hx (c := 47) (by decide) (by decide)), e0]
theorem L_exit (hC : CT C N t) (hfu : 70000 ≤ fu) {p x5 : Nat} (hp : p ≤ N) (h5 : x5 ≤ p) (a1 : ¬ chr N t (sk N t p) = 42) (a2 : ¬ chr N t (sk N t p) = 43) (a3 : ¬ chr N t (sk N t p) = 45) (a4 : ¬ chr N t (sk N t p) = 47) (x1 x2 x3 x4 : Int32) (n : Nat) : F_X3_sum_b15 fu g1 g2 x1 (n + 1) x2 x3 x4 (nI x5) (cst C p (-1)) = some (rk x2 x3 x4, cst C (sk N t p) (-1)) := by
  have hN := hC.1
  rw [F_X3_sum_b15, cst_43, hC.2.1]
  by_cases z : N ≤ x5
  · rw [if_pos (nI_le z (by omega)), sk_id (show p < N → ¬ t p = 32 from fun y => by omega)]
    unfold F_X3_sum_b127
    rw [reck_ok]
    rfl
  · rw [if_neg (show ¬ nI N ≤ nI x5 from nI_ge (by omega) (by omega)), next_ok hC hfu hp]
    simp only [Option.bind_some]
    rw [if_neg a2, if_neg a3, if_neg a1, if_neg a4]
    unfold F_X3_sum_b127
    rw [reck_ok]
    rfl
theorem L_mul (hC : CT C N t) (hfu : 70000 ≤ fu) {p x5 : Nat} (hp : p ≤ N) (h5 : x5 ≤ p) {c : Int32} (hc : c = 42 ∨ c = 47) (e : chr N t (sk N t p) = c) (hlt : sk N t p < N) (x1 x2 x3 x4 : Int32) (n : Nat) : F_X3_sum_b15 fu g1 g2 x1 (n + 1) x2 x3 x4 (nI x5) (cst C p (-1)) = (g2 x1 (cst C (sk N t p + 1) (-1))).bind fun q1 => F_X3_sum_b15 fu g1 g2 x1 n x2 x3 (rk x4 c q1.1) (nI (x5 + 1)) q1.2 := by
  have hN := hC.1
  have hge := sk_ge (t := t) hp
  rw [F_X3_sum_b15, cst_43, hC.2.1, if_neg (show ¬ nI N ≤ nI x5 from nI_ge (by omega) (by omega)), next_ok hC hfu hp]
  simp only [Option.bind_some, e, F_X3_sum_b61, F_X3_sum_b92, F_X3_sum_b121, reck_ok, cst_44, add1, cst_s4]
  rcases hc with rfl | rfl
  · simp only [if_neg (show ¬ (42 : Int32) = 43 by decide), if_neg (show ¬ (42 : Int32) = 45 by decide), if_true]
  · simp only [if_neg (show ¬ (47 : Int32) = 43 by decide), if_neg (show ¬ (47 : Int32) = 45 by decide), if_neg (show ¬ (47 : Int32) = 42 by decide), if_true]
theorem L_add (hC : CT C N t) (hfu : 70000 ≤ fu) {p x5 : Nat} (hp : p ≤ N) (h5 : x5 ≤ p) {c : Int32} (hc : c = 43 ∨ c = 45) (e : chr N t (sk N t p) = c) (hlt : sk N t p < N) (x1 x2 x3 x4 : Int32) (n : Nat) : F_X3_sum_b15 fu g1 g2 x1 (n + 1) x2 x3 x4 (nI x5) (cst C p (-1)) = (g2 x1 (cst C (sk N t p + 1) (-1))).bind fun q1 => F_X3_sum_b15 fu g1 g2 x1 n (rk x2 x3 x4) c q1.1 (nI (x5 + 1)) q1.2 := by
  have hN := hC.1
  have hge := sk_ge (t := t) hp
  rw [F_X3_sum_b15, cst_43, hC.2.1, if_neg (show ¬ nI N ≤ nI x5 from nI_ge (by omega) (by omega)), next_ok hC hfu hp]
  simp only [Option.bind_some, e, F_X3_sum_b61, F_X3_sum_b92, F_X3_sum_b121, reck_ok, cst_44, add1, cst_s4]
  rcases hc with rfl | rfl
  · simp only [if_neg (show ¬ (43 : Int32) = 42 by decide), if_neg (show ¬ (43 : Int32) = 47 by decide), if_true]
  · simp only [if_neg (show ¬ (45 : Int32) = 43 by decide), if_neg (show ¬ (45 : Int32) = 42 by decide), if_neg (show ¬ (45 : Int32) = 47 by decide), if_true]
theorem L_sk (hC : CT C N t) (hfu : 70000 ≤ fu) {p x5 : Nat} (hp : p ≤ N) (h5 : x5 ≤ p) (x1 x2 x3 x4 : Int32) (n : Nat) : F_X3_sum_b15 fu g1 g2 x1 (n + 1) x2 x3 x4 (nI x5) (cst C p (-1)) = F_X3_sum_b15 fu g1 g2 x1 (n + 1) x2 x3 x4 (nI x5) (cst C (sk N t p) (-1)) := by
  have hN := hC.1
  by_cases z : N ≤ x5
  · rw [sk_id (show p < N → ¬ t p = 32 from fun y => by omega)]
  · rw [F_X3_sum_b15, F_X3_sum_b15, cst_43, cst_43, hC.2.1, if_neg (show ¬ nI N ≤ nI x5 from nI_ge (by omega) (by omega)), if_neg (show ¬ nI N ≤ nI x5 from nI_ge (by omega) (by omega)), next_ok hC hfu hp, next_ok hC hfu (sk_le hp), sk_sk hp]
theorem lgc0 {y : Int64} : lg_cmp y 0 = 0 ↔ y = 0 := by
  unfold lg_cmp
  by_cases h : y > 0
  · rw [if_pos h]
    refine ⟨fun z => absurd z (by decide), fun z => ?_⟩
    rw [z] at h
    exact absurd h (by decide)
  · rw [if_neg h]
    by_cases h2 : y = 0
    · rw [if_pos h2]
      exact ⟨fun _ => h2, fun _ => rfl⟩
    · rw [if_neg h2]
      exact ⟨fun z => absurd z (by decide), fun z => absurd z h2⟩
theorem tl (hC : CT C N t) (hR : RX' R N t r b n1) (hfu : 70000 ≤ fu) (hA : ∀ p, p ≤ N → Out C R N t WT (VS C R) d p (g2 (nI d) (cst C p (-1))) (k3 (rst R p (-1) d))) : ∀ (K p n m x5 : Nat) (x2 x3 v w : Int32), N - p ≤ K → p ≤ N → x5 ≤ p → N - p < n → N - p < m → VS C R v w →
    (∃ q v' w' x5' n', p ≤ q ∧ q ≤ N ∧ x5' ≤ q ∧ N - q < n' ∧ F_X3_sum_b15 fu g1 g2 (nI d) n x2 x3 v (nI x5) (cst C p (-1)) = F_X3_sum_b15 fu g1 g2 (nI d) n' x2 x3 v' (nI x5') (cst C q (-1)) ∧ F_X12_term_b5 fu k1 k2 k3 m w (rst R p (-1) d) = some (w', rst R q (-1) d) ∧ VS C R v' w' ∧ sk N t q = q ∧ ¬ chr N t q = 42 ∧ ¬ chr N t q = 47) ∨
    (∃ v1 M w1 q e f, f ≤ N ∧ F_X3_sum_b15 fu g1 g2 (nI d) n x2 x3 v (nI x5) (cst C p (-1)) = some (v1, M) ∧ Bd C N t f M ∧ F_X12_term_b5 fu k1 k2 k3 m w (rst R p (-1) d) = some (w1, rst R q (nI f) e)) := by
  have hN := hC.1
  intro K
  induction K with
  | zero =>
    intro p n m x5 x2 x3 v w hK hp h5 hn hm hV
    obtain ⟨n, rfl⟩ : ∃ z, n = z + 1 := ⟨n - 1, by omega⟩
    obtain ⟨m, rfl⟩ : ∃ z, m = z + 1 := ⟨m - 1, by omega⟩
    have e1 : chr N t p = -1 := chr_out (by omega)
    have e2 : sk N t p = p := sk_id (fun y => by omega)
    refine Or.inl ⟨p, v, w, x5, n + 1, Nat.le_refl p, hp, h5, by omega, rfl, ?_, hV, e2, by rw [e1]; decide, by rw [e1]; decide⟩
    rw [F_X12_term_b5, rst_21, if_pos rfl, look_ok hR hfu hp, e2]
    simp only [Option.bind_some, e1]
    rw [if_neg (by decide), look_ok hR hfu hp, e2]
    simp only [Option.bind_some, e1]
    rw [if_neg (by decide)]
  | succ K ih =>
    intro p n m x5 x2 x3 v w hK hp h5 hn hm hV
    obtain ⟨n, rfl⟩ : ∃ z, n = z + 1 := ⟨n - 1, by omega⟩
    obtain ⟨m, rfl⟩ : ∃ z, m = z + 1 := ⟨m - 1, by omega⟩
    have hge := sk_ge (t := t) hp
    have hle := sk_le (t := t) hp
    rw [F_X12_term_b5, rst_21, if_pos rfl, look_ok hR hfu hp]
    simp only [Option.bind_some]
    rw [look_ok hR hfu hle, sk_sk hp]
    simp only [Option.bind_some, F_X12_term_b31, F_X12_term_b45, F_X12_term_b87]
    rw [look_ok hR hfu hle, sk_sk hp]
    simp only [Option.bind_some, rst_20, add1, rst_s20]
    have fin : ∀ (c : Int32) (X : Option (Int32 × xM)), (c = 42 ∨ c = 47) → chr N t (sk N t p) = c → (∀ v0 w0 q2, k3 (rst R (sk N t p + 1) (-1) d) = some (w0, rst R q2 (-1) d) → VS C R v0 w0 → ∃ w', X = F_X12_term_b5 fu k1 k2 k3 m w' (rst R q2 (-1) d) ∧ VS C R (rk v c v0) w') → (∀ w0 q2 e f, f ≤ N → k3 (rst R (sk N t p + 1) (-1) d) = some (w0, rst R q2 (nI f) e) → ∃ w', X = F_X12_term_b5 fu k1 k2 k3 m w' (rst R q2 (nI f) e)) →
        (∃ q v' w' x5' n', p ≤ q ∧ q ≤ N ∧ x5' ≤ q ∧ N - q < n' ∧ F_X3_sum_b15 fu g1 g2 (nI d) (n + 1) x2 x3 v (nI x5) (cst C p (-1)) = F_X3_sum_b15 fu g1 g2 (nI d) n' x2 x3 v' (nI x5') (cst C q (-1)) ∧ X = some (w', rst R q (-1) d) ∧ VS C R v' w' ∧ sk N t q = q ∧ ¬ chr N t q = 42 ∧ ¬ chr N t q = 47) ∨
        (∃ v1 M w1 q e f, f ≤ N ∧ F_X3_sum_b15 fu g1 g2 (nI d) (n + 1) x2 x3 v (nI x5) (cst C p (-1)) = some (v1, M) ∧ Bd C N t f M ∧ X = some (w1, rst R q (nI f) e)) := by
      intro c X hc ec hok hbad
      have hlt : sk N t p < N := by
        rcases hc with rfl | rfl
        · exact chr_lt (c := 42) ec (by decide)
        · exact chr_lt (c := 47) ec (by decide)
      rw [L_mul hC hfu hp h5 hc ec hlt]
      rcases hA (sk N t p + 1) (by omega) with ⟨v0, w0, q2, z1, z2, e1, e2, _, _, hV0⟩ | ⟨v0, M, w0, q2, e', f, hf, e1, hB, e2, _, _⟩
      · obtain ⟨w', hX, hV'⟩ := hok v0 w0 q2 e2 hV0
        rw [e1, hX]
        simp only [Option.bind_some]
        rcases ih q2 n m (x5 + 1) x2 x3 (rk v c v0) w' (by omega) z2 (by omega) (by omega) (by omega) hV' with ⟨q, v', w'', x5', n', y1, y2⟩ | y
        · exact Or.inl ⟨q, v', w'', x5', n', by omega, y2⟩
        · exact Or.inr y
      · obtain ⟨w', hX⟩ := hbad w0 q2 e' f hf e2
        obtain ⟨n, rfl⟩ : ∃ z, n = z + 1 := ⟨n - 1, by omega⟩
        obtain ⟨m, rfl⟩ : ∃ z, m = z + 1 := ⟨m - 1, by omega⟩
        obtain ⟨v1, hv1⟩ := L_bad (g1 := g1) (g2 := g2) hC hfu hf hB (nI d) x2 x3 (rk v c v0) (nI (x5 + 1)) n
        rw [e1, hX]
        simp only [Option.bind_some]
        refine Or.inr ⟨v1, M, w', q2, e', f, hf, hv1, hB, ?_⟩
        rw [F_X12_term_b5, rst_21, if_neg (nIm1 (by omega))]
    by_cases e42 : chr N t (sk N t p) = 42
    · rw [if_pos e42, if_pos e42]
      simp only [if_neg (show ¬ ((1 : Int32) = 0) by decide)]
      refine fin 42 _ (Or.inl rfl) e42 (fun v0 w0 q2 e2 hV0 => ?_) (fun w0 q2 e f hf e2 => ?_)
      · rw [e2]
        refine ⟨_, rfl, fun hE => ?_⟩
        obtain ⟨rfl, _⟩ := hV hE
        obtain ⟨rfl, _⟩ := hV0 hE
        exact ⟨by unfold rk; rw [if_neg (by decide), if_neg (by decide), if_pos rfl]; rfl, rk_bnd _ _ _⟩
      · rw [e2]
        exact ⟨_, rfl⟩
    · rw [if_neg e42, if_neg e42]
      by_cases e47 : chr N t (sk N t p) = 47
      · rw [if_pos e47]
        simp only [if_true]
        refine fin 47 _ (Or.inr rfl) e47 (fun v0 w0 q2 e2 hV0 => ?_) (fun w0 q2 e f hf e2 => ?_)
        · rw [e2]
          simp only [Option.bind_some]
          by_cases hz : w0 = 0
          · rw [if_pos (lgc0.mpr ((i64z w0).mpr hz))]
            refine ⟨_, rfl, fun hE => ?_⟩
            obtain ⟨rfl, _⟩ := hV hE
            obtain ⟨rfl, _⟩ := hV0 hE
            exact ⟨by unfold rk; rw [if_neg (by decide), if_neg (by decide), if_neg (by decide), if_pos hz]; rfl, rk_bnd _ _ _⟩
          · rw [if_neg (fun z => hz ((i64z w0).mp (lgc0.mp z))), if_neg (fun z => hz ((i64z w0).mp z))]
            refine ⟨_, rfl, fun hE => ?_⟩
            obtain ⟨rfl, _⟩ := hV hE
            obtain ⟨rfl, _⟩ := hV0 hE
            exact ⟨by unfold rk; rw [if_neg (by decide), if_neg (by decide), if_neg (by decide), if_neg hz]; rfl, rk_bnd _ _ _⟩
        · rw [e2]
          simp only [Option.bind_some]
          by_cases hz : w0 = 0
          · rw [if_pos (lgc0.mpr ((i64z w0).mpr hz))]
            exact ⟨_, rfl⟩
          · rw [if_neg (fun z => hz ((i64z w0).mp (lgc0.mp z))), if_neg (fun z => hz ((i64z w0).mp z))]
            exact ⟨_, rfl⟩
      · rw [if_neg e47]
        exact Or.inl ⟨sk N t p, v, w, x5, n + 1, hge, hle, by omega, by omega, L_sk hC hfu hp h5 _ _ _ _ _, rfl, hV, sk_sk hp, e42, e47⟩
theorem sl (hC : CT C N t) (hR : RX' R N t r b n1) (hfu : 70000 ≤ fu) (hA : ∀ p, p ≤ N → Out C R N t WT (VS C R) d p (g2 (nI d) (cst C p (-1))) (k3 (rst R p (-1) d))) (hT : ∀ M, h2 M = F_X12_term fu k1 k2 k3 M) : ∀ (K p n m x5 : Nat) (x2 x3 x4 w : Int32), N - p ≤ K → p ≤ N → x5 ≤ p → N - p < n → N - p < m → sk N t p = p → ¬ chr N t p = 42 → ¬ chr N t p = 47 → (EB C R → rk x2 x3 x4 = w) →
    Out C R N t WT (VS C R) d p (F_X3_sum_b15 fu g1 g2 (nI d) n x2 x3 x4 (nI x5) (cst C p (-1))) (F_X12_sum_b5 fu h1 h2 h3 m w (rst R p (-1) d)) := by
  have hN := hC.1
  intro K
  induction K with
  | zero =>
    intro p n m x5 x2 x3 x4 w hK hp h5 hn hm hs a1 a2 hV
    obtain ⟨n, rfl⟩ : ∃ z, n = z + 1 := ⟨n - 1, by omega⟩
    obtain ⟨m, rfl⟩ : ∃ z, m = z + 1 := ⟨m - 1, by omega⟩
    have e1 : chr N t p = -1 := chr_out (by omega)
    rw [L_exit hC hfu hp h5 (by rw [hs, e1]; decide) (by rw [hs, e1]; decide) (by rw [hs, e1]; decide) (by rw [hs, e1]; decide), F_X12_sum_b5, rst_21, if_pos rfl, look_ok hR hfu hp, hs]
    simp only [Option.bind_some, e1]
    rw [if_neg (by decide), look_ok hR hfu hp, hs]
    simp only [Option.bind_some, e1]
    rw [if_neg (by decide)]
    exact Or.inl ⟨_, _, p, Nat.le_refl p, hp, rfl, rfl, trivial, trivial, fun hE => ⟨hV hE, rk_bnd _ _ _⟩⟩
  | succ K ih =>
    intro p n m x5 x2 x3 x4 w hK hp h5 hn hm hs a1 a2 hV
    obtain ⟨n, rfl⟩ : ∃ z, n = z + 1 := ⟨n - 1, by omega⟩
    obtain ⟨m, rfl⟩ : ∃ z, m = z + 1 := ⟨m - 1, by omega⟩
    rw [F_X12_sum_b5, rst_21, if_pos rfl, look_ok hR hfu hp, hs]
    simp only [Option.bind_some]
    rw [look_ok hR hfu hp, hs]
    simp only [Option.bind_some, F_X12_sum_b31, F_X12_sum_b45, F_X12_sum_b77]
    rw [look_ok hR hfu hp, hs]
    simp only [Option.bind_some, rst_20, add1, rst_s20]
    have fin : ∀ (c : Int32) (X : Option (Int32 × xM)), (c = 43 ∨ c = 45) → chr N t p = c → (∀ v' w' q2, h2 (rst R (p + 1) (-1) d) = some (w', rst R q2 (-1) d) → VS C R v' w' → ∃ w2, X = F_X12_sum_b5 fu h1 h2 h3 m w2 (rst R q2 (-1) d) ∧ (EB C R → rk (rk x2 x3 x4) c v' = w2)) → (∀ w0 q2 e f, f ≤ N → h2 (rst R (p + 1) (-1) d) = some (w0, rst R q2 (nI f) e) → ∃ w', X = F_X12_sum_b5 fu h1 h2 h3 m w' (rst R q2 (nI f) e)) →
        Out C R N t WT (VS C R) d p (F_X3_sum_b15 fu g1 g2 (nI d) (n + 1) x2 x3 x4 (nI x5) (cst C p (-1))) X := by
      intro c X hc ec hok hbad
      have hlt : p < N := by
        rcases hc with rfl | rfl
        · exact chr_lt (c := 43) ec (by decide)
        · exact chr_lt (c := 45) ec (by decide)
      rw [L_add hC hfu hp h5 hc (by rw [hs]; exact ec) (by rw [hs]; exact hlt), hs]
      have bad : ∀ v0 M w0 q2 e f, f ≤ N → g2 (nI d) (cst C (p + 1) (-1)) = some (v0, M) → Bd C N t f M → h2 (rst R (p + 1) (-1) d) = some (w0, rst R q2 (nI f) e) → Out C R N t WT (VS C R) d p ((g2 (nI d) (cst C (p + 1) (-1))).bind fun q1 => F_X3_sum_b15 fu g1 g2 (nI d) n (rk x2 x3 x4) c q1.1 (nI (x5 + 1)) q1.2) X := by
        intro v0 M w0 q2 e f hf e1 hB e2
        obtain ⟨w', hX⟩ := hbad w0 q2 e f hf e2
        obtain ⟨n, rfl⟩ : ∃ z, n = z + 1 := ⟨n - 1, by omega⟩
        obtain ⟨m, rfl⟩ : ∃ z, m = z + 1 := ⟨m - 1, by omega⟩
        obtain ⟨v1, hv1⟩ := L_bad (g1 := g1) (g2 := g2) hC hfu hf hB (nI d) (rk x2 x3 x4) c v0 (nI (x5 + 1)) n
        rw [e1, hX]
        simp only [Option.bind_some]
        refine Or.inr ⟨v1, M, w', q2, e, f, hf, hv1, hB, ?_, trivial, trivial⟩
        rw [F_X12_sum_b5, rst_21, if_neg (nIm1 (by omega))]
      rcases hA (p + 1) (by omega) with ⟨v0, w0, q2, z1, z2, e1, e2, _, _, hV0⟩ | ⟨v0, M, w0, q2, e', f, hf, e1, hB, e2, _, _⟩
      · have e3 : h2 (rst R (p + 1) (-1) d) = F_X12_term_b5 fu k1 k2 k3 fu w0 (rst R q2 (-1) d) := by
          rw [hT, F_X12_term, e2]
          rfl
        rcases tl (g1 := g1) (k1 := k1) (k2 := k2) hC hR hfu hA N q2 n fu (x5 + 1) (rk x2 x3 x4) c v0 w0 (by omega) z2 (by omega) (by omega) (by omega) hV0 with ⟨q, v', w', x5', n', y1, y2, y3, y4, y5, y6, y7, y8, y9, y10⟩ | ⟨v1, M, w1, q, e', f, hf, y5, hB, y6⟩
        · obtain ⟨w2, hX, hw2⟩ := hok v' w' q (e3.trans y6) y7
          rw [e1, hX]
          simp only [Option.bind_some]
          rw [y5]
          exact (ih q n' m x5' (rk x2 x3 x4) c v' w2 (by omega) y2 y3 y4 (by omega) y8 y9 y10 hw2).le (by omega)
        · obtain ⟨w', hX⟩ := hbad w1 q e' f hf (e3.trans y6)
          obtain ⟨m, rfl⟩ : ∃ z, m = z + 1 := ⟨m - 1, by omega⟩
          rw [e1, hX]
          simp only [Option.bind_some]
          refine Or.inr ⟨v1, M, w', q, e', f, hf, y5, hB, ?_, trivial, trivial⟩
          rw [F_X12_sum_b5, rst_21, if_neg (nIm1 (by omega))]
      · refine bad v0 M w0 q2 e' f hf e1 hB ?_
        obtain ⟨z, hz⟩ : ∃ z, fu = z + 1 := ⟨fu - 1, by omega⟩
        rw [hT, F_X12_term, e2]
        simp only [Option.bind_some]
        rw [show F_X12_term_b5 fu k1 k2 k3 fu w0 (rst R q2 (nI f) e') = F_X12_term_b5 fu k1 k2 k3 (z + 1) w0 (rst R q2 (nI f) e') from by rw [← hz], F_X12_term_b5, rst_21, if_neg (nIm1 (by omega))]
    by_cases e43 : chr N t p = 43
    · rw [if_pos e43, if_pos e43]
      simp only [if_neg (show ¬ ((1 : Int32) = 0) by decide)]
      refine fin 43 _ (Or.inl rfl) e43 (fun v' w' q2 e2 hV0 => ?_) (fun w0 q2 e f hf e2 => ?_)
      · rw [e2]
        refine ⟨_, rfl, fun hE => ?_⟩
        obtain ⟨rfl, _⟩ := hV0 hE
        rw [hV hE]
        unfold rk
        rw [if_pos rfl]
        rfl
      · rw [e2]
        exact ⟨_, rfl⟩
    · rw [if_neg e43, if_neg e43]
      by_cases e45 : chr N t p = 45
      · rw [if_pos e45]
        simp only [if_true]
        refine fin 45 _ (Or.inr rfl) e45 (fun v' w' q2 e2 hV0 => ?_) (fun w0 q2 e f hf e2 => ?_)
        · rw [e2]
          refine ⟨_, rfl, fun hE => ?_⟩
          obtain ⟨rfl, _⟩ := hV0 hE
          rw [hV hE]
          unfold rk
          rw [if_neg (by decide), if_pos rfl]
          rfl
        · rw [e2]
          exact ⟨_, rfl⟩
      · rw [if_neg e45, L_exit hC hfu hp h5 (by rw [hs]; exact a1) (by rw [hs]; exact e43) (by rw [hs]; exact e45) (by rw [hs]; exact a2), hs]
        exact Or.inl ⟨_, _, p, Nat.le_refl p, hp, rfl, rfl, trivial, trivial, fun hE => ⟨hV hE, rk_bnd _ _ _⟩⟩
theorem sum_ok (hC : CT C N t) (hR : RX' R N t r b n1) (hfu : 70000 ≤ fu) (hA : ∀ p, p ≤ N → Out C R N t WT (VS C R) d p (g2 (nI d) (cst C p (-1))) (k3 (rst R p (-1) d))) (hT : ∀ M, h2 M = F_X12_term fu k1 k2 k3 M) {p : Nat} (hp : p ≤ N) : Out C R N t WT (VS C R) d p (F_X3_sum fu g1 g2 (nI d) (cst C p (-1))) (F_X12_sum fu h1 h2 h3 (rst R p (-1) d)) := by
  have hN := hC.1
  obtain ⟨z, hz⟩ : ∃ z, fu = z + 1 := ⟨fu - 1, by omega⟩
  unfold F_X3_sum F_X12_sum
  rw [hT, F_X12_term]
  rcases hA p hp with ⟨v0, w0, q2, z1, z2, e1, e2, _, _, hV0⟩ | ⟨v0, M, w0, q2, e', f, hf, e1, hB, e2, _, _⟩
  · rw [e1, e2]
    simp only [Option.bind_some]
    rcases tl (g1 := g1) (k1 := k1) (k2 := k2) hC hR hfu hA N q2 fu fu 0 0 43 v0 w0 (by omega) z2 (by omega) (by omega) (by omega) hV0 with ⟨q, v', w', x5', n', y1, y2, y3, y4, y5, y6, y7, y8, y9, y10⟩ | ⟨v1, M, w1, q, e', f, hf, y5, hB, y6⟩
    · rw [show F_X3_sum_b15 fu g1 g2 (nI d) fu 0 43 v0 0 (cst C q2 (-1)) = _ from y5, y6]
      simp only [Option.bind_some]
      exact (sl hC hR hfu hA hT N q n' fu x5' 0 43 v' w' (by omega) y2 y3 y4 (by omega) y8 y9 y10 (fun hE => by
        obtain ⟨a1, a2⟩ := y7 hE
        rw [rk0 a2, a1])).le (by omega)
    · rw [show F_X3_sum_b15 fu g1 g2 (nI d) fu 0 43 v0 0 (cst C q2 (-1)) = _ from y5, y6]
      simp only [Option.bind_some]
      refine Or.inr ⟨v1, M, w1, q, e', f, hf, rfl, hB, ?_, trivial, trivial⟩
      rw [show F_X12_sum_b5 fu h1 h2 h3 fu w1 (rst R q (nI f) e') = F_X12_sum_b5 fu h1 h2 h3 (z + 1) w1 (rst R q (nI f) e') from by rw [← hz], F_X12_sum_b5, rst_21, if_neg (nIm1 (by omega))]
  · rw [e1, e2]
    simp only [Option.bind_some]
    obtain ⟨v1, hv1⟩ := L_bad (g1 := g1) (g2 := g2) hC hfu hf hB (nI d) 0 43 v0 0 z
    rw [show F_X12_term_b5 fu k1 k2 k3 fu w0 (rst R q2 (nI f) e') = F_X12_term_b5 fu k1 k2 k3 (z + 1) w0 (rst R q2 (nI f) e') from by rw [← hz], F_X12_term_b5, rst_21, if_neg (nIm1 (by omega))]
    simp only [Option.bind_some]
    refine Or.inr ⟨v1, M, w0, q2, e', f, hf, ?_, hB, ?_, trivial, trivial⟩
    · rw [← hv1, ← hz]
    · rw [show F_X12_sum_b5 fu h1 h2 h3 fu w0 (rst R q2 (nI f) e') = F_X12_sum_b5 fu h1 h2 h3 (z + 1) w0 (rst R q2 (nI f) e') from by rw [← hz], F_X12_sum_b5, rst_21, if_neg (nIm1 (by omega))]
theorem sum_main (hC : CT C N t) (hR : RX' R N t r b n1) (hfu : 70000 ≤ fu) : ∀ (e d n m : Nat), d + e = 6 → 2 * e + 2 ≤ n → 3 * e + 3 ≤ m → ∀ p, p ≤ N → Out C R N t WT (VS C R) d p ((R_X3_sum_atom fu n).1 (nI d) (cst C p (-1))) ((R_X12_sum_term_atom fu m).1 (rst R p (-1) d)) := by
  intro e
  induction e with
  | zero =>
    intro d n m hd hn hm p hp
    obtain ⟨n, rfl⟩ : ∃ z, n = z + 2 := ⟨n - 2, by omega⟩
    obtain ⟨m, rfl⟩ : ∃ z, m = z + 3 := ⟨m - 3, by omega⟩
    exact sum_ok (k1 := (R_X12_sum_term_atom fu (m + 1)).1) (k2 := (R_X12_sum_term_atom fu (m + 1)).2.1) (k3 := (R_X12_sum_term_atom fu (m + 1)).2.2) hC hR hfu (fun p hp => atom_ok hC hR hfu _ _ _ _ _ (by omega) (fun z => absurd z (by omega)) hp) (fun M => rfl) hp
  | succ e ih =>
    intro d n m hd hn hm p hp
    obtain ⟨n, rfl⟩ : ∃ z, n = z + 2 := ⟨n - 2, by omega⟩
    obtain ⟨m, rfl⟩ : ∃ z, m = z + 3 := ⟨m - 3, by omega⟩
    exact sum_ok (k1 := (R_X12_sum_term_atom fu (m + 1)).1) (k2 := (R_X12_sum_term_atom fu (m + 1)).2.1) (k3 := (R_X12_sum_term_atom fu (m + 1)).2.2) hC hR hfu (fun p hp => atom_ok hC hR hfu _ _ _ _ _ (by omega) (fun _ p hp => ih (d + 1) n m (by omega) (by omega) (by omega) p hp) hp) (fun M => rfl) hp
/-- a SUM, at any depth -/
theorem sumT (hC : CT C N t) (hR : RX' R N t r b n1) (hfu : 70000 ≤ fu) (hd : d ≤ 6) {p : Nat} (hp : p ≤ N) : Out C R N t WT (VS C R) d p (T_X3_sum fu (nI d) (cst C p (-1))) (T_X12_sum fu (rst R p (-1) d)) :=
  sum_main hC hR hfu (6 - d) d 30 30 (by omega) (by omega) (by omega) p hp
/-- a SUM of the class behind a known FAULT -/
theorem sumT_bad (hC : CT C N t) (hfu : 70000 ≤ fu) {p f : Nat} (hf : f ≤ N) (x : Int32) : ∃ v, T_X3_sum fu x (cst C p (nI f)) = some (v, cst C p (nI f)) := by
  have hN := hC.1
  obtain ⟨z, hz⟩ : ∃ z, fu = z + 1 := ⟨fu - 1, by omega⟩
  obtain ⟨v, hv⟩ := L_bad (g1 := (R_X3_sum_atom fu 29).1) (g2 := (R_X3_sum_atom fu 29).2) hC hfu hf (Or.inl ⟨p, rfl⟩) x 0 43 0 0 z
  refine ⟨v, ?_⟩
  show F_X3_sum fu (R_X3_sum_atom fu 29).1 (R_X3_sum_atom fu 29).2 x (cst C p (nI f)) = _
  unfold F_X3_sum
  rw [show (R_X3_sum_atom fu 29).2 x (cst C p (nI f)) = some (0, cst C p (nI f)) from atom_bad (d := 0) (by omega) _ _ _]
  simp only [Option.bind_some]
  rw [← hv, ← hz]
end SUMS2
