/-! SETS of FAULTS: both sides lay the same -/
def QC (R M : xM) (m F : Nat) : Prop := M 27 m = nI F ∧ ∀ k, k < 48 → M 28 k = R 16 k ∧ M 29 k = R 17 k ∧ M 30 k = R 18 k
def QR (R M : xM) (m F : Nat) : Prop := M 15 m = nI F ∧ ∀ k, k < 48 → M 16 k = R 16 k ∧ M 17 k = R 17 k ∧ M 18 k = R 18 k
def okFs (R : xM) (m F : Nat) : Prop := ∃ lv : Nat, lv ≤ 16 ∧ ∀ f, f < F → okF lv (R 16 (m * 8 + f)) (R 17 (m * 8 + f)) (R 18 (m * 8 + f))
section FIT2
variable {C R : xM} {m F s fu : Nat}
theorem arC_loop (hm : m < 6) (hF : F ≤ 8) (hk : okFs R m F) (hA0 : ∀ f, f ≤ F → okA (arr R m s f)) : ∀ k f n M, f + k = F → k < n → QC R M m F → AC M (arr R m s f) → ∃ C', F_X2_arrange_b55 fu (nI m) (nI s) n (nI f) M = some C' ∧ AC C' (arr R m s F) := by
  obtain ⟨lv, hl, hk⟩ := hk
  intro k
  induction k with
  | zero =>
    intro f n M hf hn hQ hA
    obtain ⟨n, rfl⟩ : ∃ z, n = z + 1 := ⟨n - 1, by omega⟩
    obtain rfl : f = F := by omega
    rw [F_X2_arrange_b55, P_X5_faultsOf, at_ok hm (by decide), hQ.1, if_pos (nI_le (Nat.le_refl f) (by omega))]
    exact ⟨M, rfl, hA⟩
  | succ k ih =>
    intro f n M hf hn hQ hA
    obtain ⟨n, rfl⟩ : ∃ z, n = z + 1 := ⟨n - 1, by omega⟩
    have hk48 : m * 8 + f < 48 := by omega
    obtain ⟨q1, q2, q3⟩ := hQ.2 _ hk48
    have I := ih (f + 1) n
    rw [arr] at I
    rw [F_X2_arrange_b55, P_X5_faultsOf, at_ok hm (by decide), hQ.1, if_neg (show ¬ nI F ≤ nI f from nI_ge (by omega) (by omega)), has_tb (show f ≤ 30 by omega), tb_nI (by omega), P_X5_kindOf, P_X5_firstOf, P_X5_secondOf, cnt3, at_ok hk48 (by decide), at_ok hk48 (by decide), at_ok hk48 (by decide), q1, q2, q3]
    simp only [F_X2_arrange_b110, add1]
    cases hb : s.testBit f with
    | false =>
      rw [hb, if_neg (show ¬ (false = true) by decide)] at I
      rw [if_neg (show ¬ (false = true) by decide), if_pos rfl]
      exact I M (by omega) (by omega) hQ hA
    | true =>
      rw [hb, if_pos (show true = true from rfl)] at I
      obtain ⟨M1, e1, hA1⟩ := afC hl (hk f (by omega)) (hA0 f (by omega)) hA
      have f1 : xfr wr_X2_arrangeFault M M1 := fr_X2_arrangeFault _ _ _ _ _ e1
      rw [if_pos (show true = true from rfl), if_neg (show ¬ ((1 : Int32) = 0) by decide), e1]
      simp only [Option.bind_some]
      exact I M1 (by omega) (by omega) ⟨(f1 27 m rfl).trans hQ.1, fun k hk => ⟨(f1 28 k rfl).trans (hQ.2 k hk).1, (f1 29 k rfl).trans (hQ.2 k hk).2.1, (f1 30 k rfl).trans (hQ.2 k hk).2.2⟩⟩ hA1
theorem arC0_loop (x1 x2 : Int32) : ∀ k i n M, i + k = 16 → k < n → QC R M m F → (∀ l, l < i → M 33 l = nI l ∧ M 34 l = 0 ∧ M 35 l = 1000) → ∃ M', F_X2_arrange_b2 fu x1 x2 n (nI i) M = F_X2_arrange_b55 fu x1 x2 fu 0 M' ∧ QC R M' m F ∧ AC M' (arr R m s 0) := by
  intro k
  induction k with
  | zero =>
    intro i n M hi hn hQ hA
    obtain ⟨n, rfl⟩ : ∃ z, n = z + 1 := ⟨n - 1, by omega⟩
    obtain rfl : i = 16 := by omega
    rw [F_X2_arrange_b2, if_pos (show (16 : Int32) ≤ nI 16 by decide)]
    exact ⟨_, rfl, hQ, hA, fun l hl => tb_0 l, fun l hl => tb_0 l⟩
  | succ k ih =>
    intro i n M hi hn hQ hA
    obtain ⟨n, rfl⟩ : ∃ z, n = z + 1 := ⟨n - 1, by omega⟩
    have hi16 : i < 16 := by omega
    rw [F_X2_arrange_b2, if_neg (show ¬ (16 : Int32) ≤ nI i from nI_ge (b := 16) hi16 (by decide)), put_ok hi16 (by decide)]
    simp only [Option.bind_some]
    rw [put_ok hi16 (by decide)]
    simp only [Option.bind_some]
    rw [put_ok hi16 (by decide)]
    simp only [Option.bind_some, add1]
    refine ih (i + 1) n _ (by omega) (by omega) hQ (fun l hl => ?_)
    by_cases e : l = i
    · subst e
      simp [xset]
    · obtain ⟨q1, q2, q3⟩ := hA l (by omega)
      simp [xset, e, q1, q2, q3]
theorem arrC (hfu : 70000 ≤ fu) (hm : m < 6) (hF : F ≤ 8) (hk : okFs R m F) (hA0 : ∀ f, f ≤ F → okA (arr R m s f)) (hQ : QC R C m F) : ∃ C', F_X2_arrange fu (nI m) (nI s) C = some C' ∧ AC C' (arr R m s F) := by
  obtain ⟨M', e1, q1, q2⟩ := arC0_loop (s := s) (fu := fu) (nI m) (nI s) 16 0 fu C (by omega) (by omega) hQ (fun l hl => absurd hl (by omega))
  obtain ⟨C', e2, q3⟩ := arC_loop (fu := fu) hm hF hk hA0 F 0 fu M' (by omega) (by omega) q1 q2
  exact ⟨C', e1.trans e2, q3⟩
theorem arR_loop (hm : m < 6) (hF : F ≤ 8) (hk : okFs R m F) (hA0 : ∀ f, f ≤ F → okA (arr R m s f)) : ∀ k f n M, f + k = F → k < n → QR R M m F → AR M (arr R m s f) → M 0 43 = nI m → ∃ R', F_X12_lay_b56 fu (nI m) (nI s) n (nI f) M = some R' ∧ AR R' (arr R m s F) ∧ R' 0 43 = nI m := by
  obtain ⟨lv, hl, hk⟩ := hk
  intro k
  induction k with
  | zero =>
    intro f n M hf hn hQ hA h43
    obtain ⟨n, rfl⟩ : ∃ z, n = z + 1 := ⟨n - 1, by omega⟩
    obtain rfl : f = F := by omega
    rw [F_X12_lay_b56, if_neg (idx_no hm (by decide)), nI_clamp (by omega), hQ.1, if_pos (nI_le (Nat.le_refl f) (by omega))]
    exact ⟨M, rfl, hA, h43⟩
  | succ k ih =>
    intro f n M hf hn hQ hA h43
    obtain ⟨n, rfl⟩ : ∃ z, n = z + 1 := ⟨n - 1, by omega⟩
    have hk48 : m * 8 + f < 48 := by omega
    obtain ⟨q1, q2, q3⟩ := hQ.2 _ hk48
    have I := ih (f + 1) n
    rw [arr] at I
    rw [F_X12_lay_b56, if_neg (idx_no hm (by decide)), nI_clamp (show m < 2 ^ 31 by omega), hQ.1, if_neg (show ¬ nI F ≤ nI f from nI_ge (by omega) (by omega)), has12_tb (show f < 32 by omega), tb_nI (by omega), cnt4, if_neg (idx_no hk48 (by decide)), if_neg (idx_no hk48 (by decide)), if_neg (idx_no hk48 (by decide)), nI_clamp (show m * 8 + f < 2 ^ 31 by omega), q1, q2, q3]
    simp only [F_X12_lay_b169, F_X12_lay_b247, add1]
    cases hb : s.testBit f with
    | false =>
      rw [hb, if_neg (show ¬ (false = true) by decide)] at I
      rw [if_neg (show ¬ (false = true) by decide), if_pos rfl]
      exact I M (by omega) (by omega) hQ hA h43
    | true =>
      rw [hb, if_pos (show true = true from rfl)] at I
      rw [if_pos (show true = true from rfl), if_neg (show ¬ ((1 : Int32) = 0) by decide)]
      have hp := hA0 f (by omega)
      obtain ⟨a1, a2, a3⟩ := hA
      have h := hk f (by omega)
      generalize arr R m s f = p at I hp a1 a2 a3
      generalize R 16 (m * 8 + f) = kk at I h
      generalize R 17 (m * 8 + f) = aa at I h
      generalize R 18 (m * 8 + f) = bb at I h
      unfold stA at I
      rcases h with ⟨rfl, ⟨j, hj, rfl⟩, hbb⟩ | ⟨rfl, ⟨j, hj, rfl⟩, ⟨i, hi, rfl⟩, _⟩ | ⟨rfl, ⟨j, hj, rfl⟩⟩ | ⟨rfl, ⟨j, hj, rfl⟩, w, hw1, hw2, rfl⟩ | ⟨rfl, ⟨j, hj, rfl⟩⟩
      · rw [if_pos rfl, nI_clamp (by omega)] at I
        have hj16 : j < 16 := by omega
        have hw := hp.2.2 j hj16
        rw [if_pos rfl, if_neg (idx_no hj16 (by decide)), nI_clamp (by omega), (a1 j hj16).2.2]
        have go : ∀ (x : Int32) (y : Nat), jmin (nI (p.2.2.1 j)) x = nI y → y = (if bb = 0 then min (p.2.2.1 j) 10 else min (p.2.2.1 j) 100) → ∃ R', (if nI j < 0 ∨ 16 ≤ j then none else F_X12_lay_b56 fu (nI m) (nI s) n (nI (f + 1)) (xset M 21 j (jmin (nI (p.2.2.1 j)) x))) = some R' ∧ AR R' (arr R m s F) ∧ R' 0 43 = nI m := by
          intro x y hy ey
          rw [if_neg (idx_no2 hj16 (by decide)), hy]
          refine I _ (by omega) (by omega) hQ ⟨fun l hll => ?_, a2, a3⟩ h43
          obtain ⟨z1, z2, z3⟩ := a1 l hll
          refine ⟨z1, z2, ?_⟩
          show xset M 21 j _ 21 l = nI (fn p.2.2.1 j _ l)
          rw [fn_at, ← ey]
          by_cases z : l = j
          · subst z
            simp [xset]
          · simp [xset, z, z3]
        by_cases z : bb = 0
        · rw [if_pos z]
          exact go 10 (min (p.2.2.1 j) 10) (jminN (b := 10) (by omega) (by decide)) (by rw [if_pos z])
        · rw [if_neg z]
          exact go 100 (min (p.2.2.1 j) 100) (jminN (b := 100) (by omega) (by decide)) (by rw [if_neg z])
      · rw [if_neg (by decide), if_pos rfl, nI_clamp (by omega), nI_clamp (by omega)] at I
        have hj16 : j < 16 := by omega
        have hi16 : i < 16 := by omega
        rw [if_neg (show ¬ ((1 : Int32) = 0) by decide), if_pos rfl, if_neg (idx_no hj16 (by decide)), if_neg (idx_no hi16 (by decide)), if_neg (idx_no hj16 (by decide)), if_neg (idx_no hi16 (by decide)), nI_clamp (by omega), nI_clamp (by omega)]
        refine I _ (by omega) (by omega) hQ ⟨fun l hll => ?_, a2, a3⟩ h43
        obtain ⟨z1, z2, z3⟩ := a1 l hll
        refine ⟨?_, z2, z3⟩
        show xset (xset M 19 j (M 19 i)) 19 i (M 19 j) 19 l = nI (fn (fn p.1 j (p.1 i)) i (p.1 j) l)
        rw [fn_at, fn_at, (a1 i hi16).1, (a1 j hj16).1]
        by_cases z : l = i
        · subst z
          simp [xset]
        · by_cases z2 : l = j
          · subst z2
            simp [xset, z]
          · simp [xset, z, z2, z1]
      · rw [if_neg (by decide), if_neg (by decide), if_pos rfl, nI_clamp (by omega)] at I
        have hj16 : j < 16 := by omega
        rw [if_neg (show ¬ ((2 : Int32) = 0) by decide), if_neg (show ¬ ((2 : Int32) = 1) by decide), if_pos rfl, if_neg (idx_no hj16 (by decide)), nI_clamp (by omega), nb1]
        refine I _ (by omega) (by omega) hQ ⟨a1, fun l hll => ?_, a3⟩ h43
        show xset M 23 j 1 23 l = if fnb p.2.2.2.1 j l = true then 1 else 0
        unfold fnb
        by_cases z : l = j
        · subst z
          simp [xset]
        · simp [xset, z, a2 l hll]
      · rw [if_neg (by decide), if_neg (by decide), if_neg (by decide), if_pos rfl, nI_clamp (by omega), nI_clamp (by omega)] at I
        have hj16 : j < 16 := by omega
        rw [if_neg (show ¬ ((3 : Int32) = 0) by decide), if_neg (show ¬ ((3 : Int32) = 1) by decide), if_neg (show ¬ ((3 : Int32) = 2) by decide), if_pos rfl, if_neg (idx_no hj16 (by decide)), nI_clamp (by omega)]
        refine I _ (by omega) (by omega) hQ ⟨fun l hll => ?_, a2, a3⟩ h43
        obtain ⟨z1, z2, z3⟩ := a1 l hll
        refine ⟨z1, ?_, z3⟩
        show xset M 20 j _ 20 l = nI (fn p.2.1 j _ l)
        rw [fn_at]
        by_cases z : l = j
        · subst z
          simp [xset]
        · simp [xset, z, z2]
      · rw [if_neg (by decide), if_neg (by decide), if_neg (by decide), if_neg (by decide), nI_clamp (by omega)] at I
        rw [if_neg (show ¬ ((4 : Int32) = 0) by decide), if_neg (show ¬ ((4 : Int32) = 1) by decide), if_neg (show ¬ ((4 : Int32) = 2) by decide), if_neg (show ¬ ((4 : Int32) = 3) by decide)]
        refine I _ (by omega) (by omega) hQ ⟨a1, a2, fun l hll => ?_⟩ h43
        show tb ((M 0 42) ||| ((1 : Int32) <<< (nI j &&& 31))) l = fnb p.2.2.2.2 j l
        rw [tb_or1 _ (by omega) (by omega), a3 l hll]
        unfold fnb
        by_cases z : l = j
        · rw [if_pos z, decide_eq_true z, Bool.or_true]
        · rw [if_neg z, decide_eq_false z, Bool.or_false]
theorem arR0_loop (x1 x2 : Int32) : ∀ k i n M, i + k = 16 → k < n → QR R M m F → M 0 43 = nI m → M 0 42 = 0 → (∀ l, l < i → M 19 l = nI l ∧ M 20 l = 0 ∧ M 21 l = 1000 ∧ M 23 l = 0) → ∃ M', F_X12_lay_b12 fu x1 x2 n (nI i) M = F_X12_lay_b56 fu x1 x2 fu 0 M' ∧ QR R M' m F ∧ AR M' (arr R m s 0) ∧ M' 0 43 = nI m := by
  intro k
  induction k with
  | zero =>
    intro i n M hi hn hQ h43 h42 hA
    obtain ⟨n, rfl⟩ : ∃ z, n = z + 1 := ⟨n - 1, by omega⟩
    obtain rfl : i = 16 := by omega
    rw [F_X12_lay_b12, if_pos (show (16 : Int32) ≤ nI 16 by decide)]
    exact ⟨_, rfl, hQ, ⟨fun l hl => ⟨(hA l hl).1, (hA l hl).2.1, (hA l hl).2.2.1⟩, fun l hl => (hA l hl).2.2.2, fun l hl => by rw [h42]; exact tb_0 l⟩, h43⟩
  | succ k ih =>
    intro i n M hi hn hQ h43 h42 hA
    obtain ⟨n, rfl⟩ : ∃ z, n = z + 1 := ⟨n - 1, by omega⟩
    have hi16 : i < 16 := by omega
    rw [F_X12_lay_b12, if_neg (show ¬ (16 : Int32) ≤ nI i from nI_ge (b := 16) hi16 (by decide)), if_neg (idx_no hi16 (by decide)), if_neg (idx_no hi16 (by decide)), if_neg (idx_no hi16 (by decide)), if_neg (idx_no hi16 (by decide)), nI_clamp (by omega), nb0, add1]
    refine ih (i + 1) n _ (by omega) (by omega) hQ h43 h42 (fun l hl => ?_)
    by_cases e : l = i
    · subst e
      simp [xset]
    · obtain ⟨q1, q2, q3, q4⟩ := hA l (by omega)
      simp [xset, e, q1, q2, q3, q4]
theorem arrR (hfu : 70000 ≤ fu) (hm : m < 6) (hF : F ≤ 8) (hk : okFs R m F) (hA0 : ∀ f, f ≤ F → okA (arr R m s f)) {S : xM} (hQ : QR R S m F) : ∃ R', F_X12_lay fu (nI m) (nI s) S = some R' ∧ AR R' (arr R m s F) ∧ R' 0 43 = nI m := by
  obtain ⟨M', e1, q1, q2, q4⟩ := arR0_loop (s := s) (fu := fu) (nI m) (nI s) 16 0 fu (xset (xset S 0 43 (nI m)) 0 42 0) (by omega) (by omega) hQ (by simp [xset]) (by simp [xset]) (fun l hl => absurd hl (by omega))
  obtain ⟨R', e2, q3⟩ := arR_loop (fu := fu) hm hF hk hA0 F 0 fu M' (by omega) (by omega) q1 q2 q4
  exact ⟨R', e1.trans e2, q3⟩
end FIT2
