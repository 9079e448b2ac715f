/-! A whole TEXT on both sides: its FAULT and its WORTH -/
section WORTH
variable {C R : xM} {N : Nat} {t : Nat → Nat} {r b n1 : Nat} {fu : Nat}
theorem rst_x {p d j : Nat} {f v : Int32} (h : j = 27 ∨ j = 24) : xset (rst R p f d) 0 j v = rst (xset R 0 j v) p f d := by
  funext a i
  unfold xset rst
  by_cases h1 : a = 0 ∧ i = j
  · rw [if_pos h1, if_neg (fun z => by omega), if_neg (fun z => by omega), if_neg (fun z => by omega)]
    show v = if a = 0 ∧ i = j then v else R a i
    rw [if_pos h1]
  · show _ = if a = 0 ∧ i = 20 then nI p else if a = 0 ∧ i = 21 then f else if a = 0 ∧ i = 22 then nI d else if a = 0 ∧ i = j then v else R a i
    rw [if_neg h1, if_neg h1]
theorem RX'.x {j : Nat} {v : Int32} (h : j = 27 ∨ j = 24) (hR : RX' R N t r b n1) : RX' (xset R 0 j v) N t r b n1 := by
  obtain ⟨q1, q2, q3, q4, q5, q6, q7, q8, q9, q10, q11⟩ := hR
  have e : ∀ i, ¬ i = j → (xset R 0 j v) 0 i = R 0 i := fun i hi => by
    unfold xset
    rw [if_neg (fun z => hi z.2)]
  have e2 : ∀ i, (xset R 0 j v) r i = R r i := fun i => by
    unfold xset
    rw [if_neg (fun z => q3 z.1)]
  exact ⟨q1, q2, q3, q4, q5, q6, q7, (e 14 (by omega)).trans q8, (e 18 (by omega)).trans q9, (e 19 (by omega)).trans q10, fun i hi => (e2 _).trans (q11 i hi)⟩
theorem wb163 (hC : CT C N t) {f : Nat} (hf : f ≤ N) {M : xM} (h : Bd C N t f M) (x2 : Int32) : ∃ M', F_X3_worth_b163 fu x2 M = some (x2, M') ∧ M' 4 0 = nI f := by
  have hN := hC.1
  unfold F_X3_worth_b163
  rcases h with ⟨p, rfl⟩ | ⟨rfl, h1, h2⟩
  · by_cases z : (cst C p (nI f)) 4 3 ≤ (cst C p (nI f)) 4 4
    · rw [if_pos z]
      exact ⟨_, rfl, rfl⟩
    · rw [if_neg z, stop_bad (by omega)]
      exact ⟨_, rfl, rfl⟩
  · rw [cst_43, cst_44, hC.2.1, if_neg (show ¬ nI N ≤ nI f from nI_ge h1 (by omega)), stop_ok]
    exact ⟨_, rfl, rfl⟩
theorem wb135 (hC : CT C N t) (hfu : 70000 ≤ fu) {f : Nat} (hf : f ≤ N) {M : xM} (h : Bd C N t f M) (k : Int32 → Int32 → Int32 → xM → Option (Int32 × xM)) (x1 x2 x3 : Int32) : ∃ v M', F_X3_worth_b135 fu k x1 x2 x3 M = some (v, M') ∧ M' 4 0 = nI f := by
  obtain ⟨x, hx, hn⟩ := bd_next hC hfu hf h
  obtain ⟨M', e1, e2⟩ := wb163 (fu := fu) hC hf h x2
  refine ⟨x2, M', ?_, e2⟩
  unfold F_X3_worth_b135
  rw [hn]
  simp only [Option.bind_some]
  rw [if_neg (show ¬ x = 59 from noop_ne hx (c := 59) (by decide) (by decide)), e1]
theorem wb121 (hC : CT C N t) (hfu : 70000 ≤ fu) {f : Nat} (hf : f ≤ N) {M : xM} (h : Bd C N t f M) (k : Int32 → Int32 → Int32 → xM → Option (Int32 × xM)) (x1 x2 x3 x6 x7 : Int32) : ∃ v M', F_X3_worth_b121 fu k x1 x2 x3 x6 x7 M = some (v, M') ∧ M' 4 0 = nI f := by
  unfold F_X3_worth_b121
  by_cases a : x7 = 0
  · rw [if_pos a]
    exact wb135 hC hfu hf h k _ _ _
  · rw [if_neg a]
    by_cases a2 : x1 = 0
    · rw [if_pos a2]
      exact wb135 hC hfu hf h k _ _ _
    · rw [if_neg a2]
      exact wb135 hC hfu hf h k _ _ _
theorem wb77 (hC : CT C N t) (hfu : 70000 ≤ fu) {f : Nat} (hf : f ≤ N) {M : xM} (h : Bd C N t f M) (k : Int32 → Int32 → Int32 → xM → Option (Int32 × xM)) (x1 x2 x3 s0 : Int32) : ∃ v M', F_X3_worth_b77 fu k x1 x2 x3 1 s0 M = some (v, M') ∧ M' 4 0 = nI f := by
  obtain ⟨x, hx, hn⟩ := bd_next hC hfu hf h
  unfold F_X3_worth_b77
  rw [if_neg (show ¬ ((1 : Int32) = 0) by decide), hn]
  simp only [Option.bind_some]
  rw [if_pos (isCmp_no hx)]
  exact wb121 hC hfu hf h k _ _ _ _ _
theorem wb61 (hC : CT C N t) (hfu : 70000 ≤ fu) {p f : Nat} (hf : f ≤ N) (k : Int32 → Int32 → Int32 → xM → Option (Int32 × xM)) (x1 x2 x3 : Int32) : ∃ v M', F_X3_worth_b61 fu k x1 x2 x3 1 (cst C p (nI f)) = some (v, M') ∧ M' 4 0 = nI f := by
  obtain ⟨v, hv⟩ := sumT_bad hC hfu hf 0 (p := p)
  unfold F_X3_worth_b61
  rw [if_neg (show ¬ ((1 : Int32) = 0) by decide), hv]
  exact wb77 hC hfu hf (Or.inl ⟨p, rfl⟩) k _ _ _ _
/-- behind a CONDITION that went wrong -/
theorem wtail (hC : CT C N t) (hfu : 70000 ≤ fu) {p f : Nat} (hf : f ≤ N) (k : Int32 → Int32 → Int32 → xM → Option (Int32 × xM)) (x1 x2 x3 x7 : Int32) : ∃ v M', ((T_X3_sum fu 0 (cst C p (nI f))).bind fun q3 => F_X3_worth_b121 fu k x1 x2 x3 q3.1 x7 q3.2) = some (v, M') ∧ M' 4 0 = nI f := by
  obtain ⟨v, hv⟩ := sumT_bad hC hfu hf 0 (p := p)
  rw [hv]
  exact wb121 hC hfu hf (Or.inl ⟨p, rfl⟩) k _ _ _ _ _
theorem gt_bad {p f d m ra na : Nat} (hf : f ≤ 120) (y2 y3 : Int32) : F_X12_goThrough_b50 fu ra na y2 y3 (m + 1) (rst R p (nI f) d) = some (rst R p (nI f) d) := by
  rw [F_X12_goThrough_b50, rst_21, if_neg (nIm1 (by omega))]
  unfold F_X12_goThrough_b84
  rw [rst_21, if_neg (nIm1 (by omega))]
theorem b134_bad {p f d : Nat} (hf : f ≤ 120) (x1 x2 x3 : Int32) : F_X12_clause_b134 fu x1 x2 x3 (rst R p (nI f) d) = some (rst R p (nI f) d) := by
  unfold F_X12_clause_b134
  rw [rst_21, if_neg (nIm1 (by omega))]
/-- found, and its worth, on both sides -/
def IW (C R : xM) (x1 x2 : Int32) : Prop := EB C R → x1 = R 0 27 ∧ x2 = R 0 24
def WG (C R : xM) (a : Option (Int32 × xM)) (o : Option xM) : Prop := ∃ v M' R', a = some (v, M') ∧ o = some R' ∧ M' 4 0 = R' 0 21 ∧ (M' 4 0 = -1 → EB C R → v = R' 0 24)
theorem WG.bad {a : Option (Int32 × xM)} {o : Option xM} {f q d : Nat} {R0 : xM} (hf : f ≤ 120) (h : ∃ v M', a = some (v, M') ∧ M' 4 0 = nI f) (ho : o = some (rst R0 q (nI f) d)) : WG C R a o := by
  obtain ⟨v, M', e1, e2⟩ := h
  exact ⟨v, M', _, e1, ho, e2, fun z => absurd (e2.symm.trans z) (nIm1 (by omega))⟩
theorem worth_ok (hC : CT C N t) (hfu : 70000 ≤ fu) {ra na : Nat} {y2 y3 : Int32} : ∀ (K p n m c : Nat) (x1 x2 : Int32) (R : xM), RX' R N t r b n1 → R 0 23 = 121 → N - p < K → p ≤ N → c ≤ p → N - p < n → N - p < m → IW C R x1 x2 →
    WG C R (F_X3_worth_b16 fu n x1 x2 (nI c) (cst C p (-1))) ((F_X12_clause fu (rst R p (-1) 0)).bind fun q2 => F_X12_goThrough_b50 fu ra na y2 y3 m q2) := by
  have hN := hC.1
  intro K
  induction K with
  | zero =>
    intro p n m c x1 x2 R hR h23 hK
    exact absurd hK (by omega)
  | succ K ih =>
    intro p n m c x1 x2 R hR h23 hK hp hc hn hm hI
    obtain ⟨n, rfl⟩ : ∃ z, n = z + 1 := ⟨n - 1, by omega⟩
    obtain ⟨m, rfl⟩ : ∃ z, m = z + 1 := ⟨m - 1, by omega⟩
    have fin : ∀ q x6 x6' x7 x7', p < q → q ≤ N → (EB C R → x6 = x6' ∧ x7 = x7') → WG C R (F_X3_worth_b121 fu (F_X3_worth_b16 fu n) x1 x2 (nI c) x6 x7 (cst C q (-1))) ((F_X12_clause_b134 fu 121 x7' x6' (rst R q (-1) 0)).bind fun q2 => F_X12_goThrough_b50 fu ra na y2 y3 (m + 1) q2) := by
      intro q x6 x6' x7 x7' hpq hq hV
      have go : ∀ (R2 : xM) (z1 z2 : Int32), RX' R2 N t r b n1 → R2 0 23 = 121 → (∀ j, R2 10 j = R 10 j) → IW C R2 z1 z2 → WG C R (F_X3_worth_b135 fu (F_X3_worth_b16 fu n) z1 z2 (nI c) (cst C q (-1))) (F_X12_goThrough_b50 fu ra na y2 y3 (m + 1) (rst R2 q (-1) 0)) := by
        intro R2 z1 z2 hR2 h232 h10 hI2
        have hEB : EB C R2 ↔ EB C R := by
          unfold EB
          simp only [h10]
        have hge := sk_ge (t := t) hq
        have hle := sk_le (t := t) hq
        unfold F_X3_worth_b135
        rw [next_ok hC hfu hq, F_X12_goThrough_b50, rst_21, if_pos rfl, look_ok hR2 hfu hq]
        simp only [Option.bind_some]
        by_cases e59 : chr N t (sk N t q) = 59
        · have hlt : sk N t q < N := chr_lt (c := 59) e59 (by decide)
          rw [if_pos e59, if_pos e59, add1, cst_44, add1, cst_s4, rst_20, add1, rst_s20]
          obtain ⟨v, M', R', a1, a2, a3, a4⟩ := ih (sk N t q + 1) n m (c + 1) z1 z2 R2 hR2 h232 (by omega) (by omega) (by omega) (by omega) (by omega) hI2
          exact ⟨v, M', R', a1, a2, a3, fun w hE => a4 w (hEB.mpr hE)⟩
        · rw [if_neg e59, if_neg e59]
          unfold F_X3_worth_b163 F_X12_goThrough_b84
          rw [cst_43, cst_44, hC.2.1, rst_21, if_pos rfl, look_ok hR2 hfu hle, sk_sk hq]
          simp only [Option.bind_some]
          by_cases hz : sk N t q < N
          · rw [if_neg (show ¬ nI N ≤ nI (sk N t q) from nI_ge hz (by omega)), if_neg (show ¬ chr N t (sk N t q) = -1 by rw [chr_in hz]; exact nIm1 (by have := (hC.2.2 _ hz).1; omega)), stop_ok, fails_ok]
            exact WG.bad (f := sk N t q) (by omega) ⟨_, _, rfl, rfl⟩ rfl
          · rw [if_pos (show nI N ≤ nI (sk N t q) from nI_le (by omega) (by omega)), if_pos (chr_out hz)]
            exact ⟨_, _, _, rfl, rfl, rfl, fun _ hE => (hI2 (hEB.mpr hE)).2⟩
      unfold F_X3_worth_b121 F_X12_clause_b134
      have hR27 : ∀ v w, RX' (xset (xset R 0 27 v) 0 24 w) N t r b n1 := fun v w => (hR.x (Or.inl rfl)).x (Or.inr rfl)
      rw [rst_21, if_pos rfl, show (rst R q (-1) 0) 0 27 = R 0 27 from rfl, show (rst R q (-1) 0) 0 23 = R 0 23 from rfl, h23]
      simp only [if_true]
      rw [rst_x (Or.inl rfl), rst_x (Or.inr rfl)]
      by_cases hE : EB C R
      · obtain ⟨rfl, rfl⟩ := hV hE
        obtain ⟨i1, i2⟩ := hI hE
        rw [← i1]
        by_cases a7 : x7 = 0
        · simp only [if_pos a7]
          by_cases a1 : x1 = 0
          · rw [if_pos a1]
            exact go R _ _ hR h23 (fun _ => rfl) hI
          · rw [if_neg a1]
            exact go R _ _ hR h23 (fun _ => rfl) hI
        · simp only [if_neg a7]
          by_cases a1 : x1 = 0
          · rw [if_pos a1, if_pos a1]
            exact go _ _ _ (hR27 1 x6) h23 (fun _ => rfl) (fun _ => ⟨by simp [xset], by simp [xset]⟩)
          · rw [if_neg a1, if_neg a1]
            exact go R _ _ hR h23 (fun _ => rfl) hI
      · have noI : ∀ (R2 : xM) z1 z2, (∀ j, R2 10 j = R 10 j) → IW C R2 z1 z2 := fun R2 z1 z2 h10 hE2 => by
          exfalso
          apply hE
          unfold EB at hE2 ⊢
          simp only [h10] at hE2
          exact hE2
        have k1 : ∀ R2, RX' R2 N t r b n1 → R2 0 23 = 121 → (∀ j, R2 10 j = R 10 j) → WG C R (if x7 = 0 then F_X3_worth_b135 fu (F_X3_worth_b16 fu n) x1 x2 (nI c) (cst C q (-1)) else if x1 = 0 then F_X3_worth_b135 fu (F_X3_worth_b16 fu n) 1 x6 (nI c) (cst C q (-1)) else F_X3_worth_b135 fu (F_X3_worth_b16 fu n) x1 x2 (nI c) (cst C q (-1))) (F_X12_goThrough_b50 fu ra na y2 y3 (m + 1) (rst R2 q (-1) 0)) := by
          intro R2 g1 g2 g3
          by_cases a7 : x7 = 0
          · rw [if_pos a7]
            exact go R2 _ _ g1 g2 g3 (noI R2 _ _ g3)
          · rw [if_neg a7]
            by_cases a1 : x1 = 0
            · rw [if_pos a1]
              exact go R2 _ _ g1 g2 g3 (noI R2 _ _ g3)
            · rw [if_neg a1]
              exact go R2 _ _ g1 g2 g3 (noI R2 _ _ g3)
        by_cases b27 : R 0 27 = 0
        · rw [if_pos b27]
          by_cases b7 : x7' = 0
          · rw [if_pos b7]
            exact k1 R hR h23 (fun _ => rfl)
          · rw [if_neg b7]
            exact k1 _ (hR27 1 x6') h23 (fun _ => rfl)
        · rw [if_neg b27]
          exact k1 R hR h23 (fun _ => rfl)
    have hge := sk_ge (t := t) hp
    have hle := sk_le (t := t) hp
    rw [F_X3_worth_b16, cst_43, hC.2.1, if_neg (show ¬ nI N < nI c from nI_nlt (by omega) (by omega)), show (121 : Int32) = nI 121 from rfl, show (58 : Int32) = nI 58 from rfl, expect_ok hC hfu hp]
    unfold F_X12_clause
    rw [look_ok hR hfu hp]
    simp only [Option.bind_some]
    rw [show P_X12_isAmong 1000 (chr N t (sk N t p)) (rst R (sk N t p) (-1) 0) = if (121 : Int32) = chr N t (sk N t p) then 1 else 0 from rfl]
    by_cases e121 : chr N t (sk N t p) = nI 121
    rotate_left
    · rw [if_neg e121, if_neg (show ¬ ((121 : Int32) = chr N t (sk N t p)) from fun z => e121 z.symm), if_pos rfl, fails_ok]
      obtain ⟨p2, hp2⟩ := bd_expect hC hfu hle (Or.inl ⟨sk N t p, rfl⟩) (M := cst C (sk N t p) (nI (sk N t p))) (c := 58) (by decide) (by decide)
      rw [hp2]
      simp only [Option.bind_some]
      rw [next_bad (by omega)]
      simp only [Option.bind_some]
      rw [if_neg (show ¬ ((-1 : Int32) = 33) by decide), if_neg (show ¬ ((-1 : Int32) = 40) by decide), gt_bad (by omega)]
      exact WG.bad (f := sk N t p) (by omega) (wb61 hC hfu hle _ _ _ _) rfl
    have hlt1 := chr_lt e121 (by decide)
    rw [if_pos e121, if_pos (show (121 : Int32) = chr N t (sk N t p) from e121.symm), if_neg (show ¬ ((1 : Int32) = 0) by decide), rst_20, add1, rst_s20, e121]
    generalize hq1 : sk N t p = q1 at hge hle hlt1
    have hge1 := sk_ge (t := t) (show q1 + 1 ≤ N by omega)
    have hle1 := sk_le (t := t) (show q1 + 1 ≤ N by omega)
    rw [expect_ok hC hfu (show q1 + 1 ≤ N by omega), takes_ok hR hfu (show q1 + 1 ≤ N by omega)]
    simp only [Option.bind_some]
    by_cases e58 : chr N t (sk N t (q1 + 1)) = nI 58
    rotate_left
    · rw [if_neg e58, if_neg (show ¬ chr N t (sk N t (q1 + 1)) = 58 from e58), next_bad (by omega)]
      simp only [Option.bind_some]
      rw [if_neg (show ¬ ((-1 : Int32) = 33) by decide), if_neg (show ¬ ((-1 : Int32) = 40) by decide)]
      simp only [if_true, Option.bind_some]
      rw [gt_bad (by omega)]
      exact WG.bad (f := sk N t (q1 + 1)) (by omega) (wb61 hC hfu hle1 _ _ _ _) rfl
    have hlt2 := chr_lt e58 (by decide)
    rw [if_pos e58, if_pos (show chr N t (sk N t (q1 + 1)) = 58 from e58)]
    generalize hq2 : sk N t (q1 + 1) = q2 at hge1 hle1 hlt2
    have hge2 := sk_ge (t := t) (show q2 + 1 ≤ N by omega)
    have hle2 := sk_le (t := t) (show q2 + 1 ≤ N by omega)
    simp only [if_neg (show ¬ ((1 : Int32) = 0) by decide)]
    rw [next_ok hC hfu (show q2 + 1 ≤ N by omega), look_ok hR hfu (show q2 + 1 ≤ N by omega)]
    simp only [Option.bind_some]
    generalize hq3 : sk N t (q2 + 1) = q3 at hge2 hle2
    -- a CONDITION, its sign, a SUM
    have conds : ∀ (x5 s0 y1 s1 : Int32) (q : Nat), p < q → q ≤ N → Out C R N t WB (VB C R) 0 q (T_X3_condition fu 0 x5 s0 (cst C q (-1))) (T_X12_condition fu y1 s1 (rst R q (-1) 0)) →
        WG C R (F_X3_worth_b97 fu (F_X3_worth_b16 fu n) x1 x2 (nI c) x5 s0 (cst C q (-1))) (((T_X12_condition fu y1 s1 (rst R q (-1) 0)).bind fun q6 => (F_X12_takes fu 63 q6.2).bind fun q7 => if q7.1 = 0 then some q7.2 else (T_X12_sum fu q7.2).bind fun q8 => F_X12_clause_b134 fu 121 q6.1 q8.1 q8.2).bind fun q2 => F_X12_goThrough_b50 fu ra na y2 y3 (m + 1) q2) := by
      intro x5 s0 y1 s1 q hpq hq hO
      unfold F_X3_worth_b97
      rw [show (63 : Int32) = nI 63 from rfl]
      rcases hO with ⟨v, w, q4, z1, z2, e1, e2, hv, hw, hV⟩ | ⟨v, M, w, q4, e', f, hf, e1, hB, e2, hv, hw⟩
      · rw [e1, e2]
        simp only [Option.bind_some]
        rw [expect_ok hC hfu z2, takes_ok hR hfu z2]
        simp only [Option.bind_some]
        have hge4 := sk_ge (t := t) z2
        have hle4 := sk_le (t := t) z2
        by_cases e63 : chr N t (sk N t q4) = nI 63
        · have hlt4 := chr_lt e63 (by decide)
          rw [if_pos e63, if_pos e63]
          simp only [if_neg (show ¬ ((1 : Int32) = 0) by decide)]
          rcases sumT hC hR hfu (Nat.zero_le 6) (show sk N t q4 + 1 ≤ N by omega) with ⟨v5, w5, q5, z5, z6, e5, e6, _, _, hV5⟩ | ⟨v5, M5, w5, q5, e5', f5, hf5, e5, hB5, e6, _, _⟩
          · rw [show T_X3_sum fu 0 (cst C (sk N t q4 + 1) (-1)) = _ from e5, e6]
            simp only [Option.bind_some]
            exact fin q5 v5 w5 v w (by omega) z6 (fun hE => ⟨(hV5 hE).1, hV hE⟩)
          · rw [show T_X3_sum fu 0 (cst C (sk N t q4 + 1) (-1)) = _ from e5, e6]
            simp only [Option.bind_some]
            rw [b134_bad (by omega)]
            simp only [Option.bind_some]
            rw [gt_bad (by omega)]
            exact WG.bad (f := f5) (by omega) (wb121 hC hfu hf5 hB5 _ _ _ _ _ _) rfl
        · rw [if_neg e63, if_neg e63]
          simp only [if_true, Option.bind_some]
          rw [gt_bad (by omega)]
          exact WG.bad (f := sk N t q4) (by omega) (wtail hC hfu hle4 _ _ _ _ _) rfl
      · obtain ⟨p2, hp2⟩ := bd_expect hC hfu hf hB (c := 63) (by decide) (by decide)
        rw [e1, e2]
        simp only [Option.bind_some]
        rw [hp2, takes_bad (by omega)]
        simp only [if_true, Option.bind_some]
        rw [gt_bad (by omega)]
        exact WG.bad (f := f) (by omega) (wtail hC hfu hf _ _ _ _ _) rfl
    have begin0 : WG C R (F_X3_worth_b60 fu (F_X3_worth_b16 fu n) x1 x2 (nI c) (cst C q3 (-1))) ((F_X12_clause_b64 fu (nI 121) (rst R q3 (-1) 0)).bind fun q2 => F_X12_goThrough_b50 fu ra na y2 y3 (m + 1) q2) := by
      unfold F_X3_worth_b60 F_X3_worth_b61 F_X3_worth_b77 F_X12_clause_b64
      rw [if_pos rfl, if_pos rfl]
      exact conds 0 0 0 0 q3 (by omega) hle2 (condT0 hC hR hfu hle2)
    by_cases e33 : chr N t q3 = 33
    · rw [if_pos e33, if_pos e33]
      exact begin0
    rw [if_neg e33, if_neg e33]
    by_cases e40 : chr N t q3 = 40
    · rw [if_pos e40, if_pos e40]
      exact begin0
    rw [if_neg e40, if_neg e40]
    unfold F_X3_worth_b61
    rw [if_neg (show ¬ ((1 : Int32) = 0) by decide)]
    rcases sumT hC hR hfu (Nat.zero_le 6) hle2 with ⟨v, w, q4, z1, z2, e1, e2, _, _, hV⟩ | ⟨v, M, w, q4, e', f, hf, e1, hB, e2, _, _⟩
    · have hge4 := sk_ge (t := t) z2
      have hle4 := sk_le (t := t) z2
      rw [show T_X3_sum fu 0 (cst C q3 (-1)) = _ from e1, e2]
      simp only [Option.bind_some]
      unfold F_X3_worth_b77
      rw [if_neg (show ¬ ((1 : Int32) = 0) by decide), rst_21, if_pos rfl, next_ok hC hfu z2, look_ok hR hfu z2]
      simp only [Option.bind_some]
      rw [show P_X12_isSign (chr N t (sk N t q4)) (rst R (sk N t q4) (-1) 0) = P_X3_isComparison (chr N t (sk N t q4)) (cst C (sk N t q4) (-1)) from rfl]
      by_cases hcmp : P_X3_isComparison (chr N t (sk N t q4)) (cst C (sk N t q4) (-1)) = 0
      · rw [if_pos hcmp, if_pos hcmp]
        exact fin (sk N t q4) v w 1 1 (by omega) hle4 (fun hE => ⟨(hV hE).1, rfl⟩)
      · rw [if_neg hcmp, if_neg hcmp]
        exact conds 1 v 1 w (sk N t q4) (by omega) hle4 (condT1 hC hR hfu hle4 (fun hE => (hV hE).1))
    · rw [show T_X3_sum fu 0 (cst C q3 (-1)) = _ from e1, e2]
      simp only [Option.bind_some]
      rw [rst_21, if_neg (nIm1 (by omega)), b134_bad (by omega)]
      simp only [Option.bind_some]
      rw [gt_bad (by omega)]
      exact WG.bad (f := f) (by omega) (wb77 hC hfu hf hB _ _ _ _ _) rfl
/-- a TEXT, from its begin -/
theorem text_ok (hC : CT C N t) (hfu : 70000 ≤ fu) (hR : RX' (xset (xset (xset R 0 14 (nI r)) 0 18 (nI b)) 0 19 (nI N)) N t r b n1) : WG C R (F_X3_worth fu C) (F_X12_goThrough fu r n1 (nI b) (nI N) R) := by
  have hN := hC.1
  unfold F_X3_worth F_X12_goThrough
  have e1 : xset (xset C 4 4 0) 4 0 (-1) = cst C 0 (-1) := by
    funext a j
    unfold xset cst
    by_cases h1 : a = 4 ∧ j = 4
    · rw [if_pos h1, if_neg (fun z => by omega), if_pos h1]
      rfl
    · rw [if_neg h1, if_neg h1]
  have e2 : xset (xset (xset (xset (xset (xset (xset (xset (xset R 0 14 (nI r)) 0 18 (nI b)) 0 19 (nI N)) 0 23 121) 0 20 0) 0 21 (-1)) 0 22 0) 0 27 0) 0 24 0 = rst (xset (xset (xset (xset (xset (xset R 0 14 (nI r)) 0 18 (nI b)) 0 19 (nI N)) 0 23 121) 0 27 0) 0 24 0) 0 (-1) 0 := by
    funext a j
    unfold xset rst
    by_cases h0 : a = 0
    · subst h0
      simp only [true_and]
      by_cases h1 : j = 20
      · subst h1
        simp
        rfl
      · by_cases h2 : j = 21
        · subst h2
          simp
        · by_cases h3 : j = 22
          · subst h3
            simp
            rfl
          · simp [h1, h2, h3]
    · simp [h0]
  rw [e1, e2]
  have hR2 : RX' (xset (xset (xset (xset (xset (xset R 0 14 (nI r)) 0 18 (nI b)) 0 19 (nI N)) 0 23 121) 0 27 0) 0 24 0) N t r b n1 := by
    refine RX'.x (Or.inr rfl) (RX'.x (Or.inl rfl) ?_)
    obtain ⟨q1, q2, q3, q4, q5, q6, q7, q8, q9, q10, q11⟩ := hR
    exact ⟨q1, q2, q3, q4, q5, q6, q7, q8, q9, q10, fun i hi => by
      have := q11 i hi
      unfold xset at this ⊢
      simp only [q3, false_and, if_false] at this ⊢
      exact this⟩
  obtain ⟨v, M', R', a1, a2, a3, a4⟩ := worth_ok (ra := r) (na := n1) (y2 := nI b) (y3 := nI N) hC hfu (N + 1) 0 fu fu 0 0 0 _ hR2 rfl (by omega) (by omega) (by omega) (by omega) (by omega) (fun _ => ⟨rfl, rfl⟩)
  exact ⟨v, M', R', a1, a2, a3, a4⟩
end WORTH
