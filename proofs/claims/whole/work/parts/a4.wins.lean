/-! wins -/
def laB (R : xM) (lv o l : Nat) (f : Nat → Int32) : Bool := allB (fun b => decide (b = l) || !decide (R 3 b = nI o) || decide (1 ≤ f b)) lv
section WINS
variable {R C : xM} {m lv on mn fu o : Nat}
theorem if_loop (hfu : 70000 ≤ fu) (hW : FW fu lv on mn C R) (hm : m < mn) : ∀ k i n S, i + k = 2 ^ nF R m → k < n → xfr wrF R S → anyB (cnt fu R lv on m) i = false → ∃ S', F_X12_isFound_b2 fu (nI m) n (nI i) S = some (b2i (someM fu R lv on m), S') ∧ xfr wrF R S' := by
  have hp := p2F hW hm
  have hm6 := hW.m6 hm
  intro k
  induction k with
  | zero =>
    intro i n S hi hn hS hB
    obtain ⟨n, rfl⟩ : ∃ z, n = z + 1 := ⟨n - 1, by omega⟩
    obtain rfl : i = 2 ^ nF R m := by omega
    rw [F_X12_isFound_b2, if_neg (idx_no hm6 (by decide)), nI_clamp (by omega), setsR hW hS hm, if_pos (nI_le (Nat.le_refl _) (by omega)), show someM fu R lv on m = false from hB]
    exact ⟨S, rfl, hS⟩
  | succ k ih =>
    intro i n S hi hn hS hB
    obtain ⟨n, rfl⟩ : ∃ z, n = z + 1 := ⟨n - 1, by omega⟩
    obtain ⟨S1, e1, hS1, _⟩ := cR hfu hW hS hm i
    rw [F_X12_isFound_b2, if_neg (idx_no hm6 (by decide)), nI_clamp (by omega), setsR hW hS hm, if_neg (show ¬ nI (2 ^ nF R m) ≤ nI i from nI_ge (by omega) (by omega)), e1]
    simp only [Option.bind_some, add1]
    cases hc : cnt fu R lv on m i with
    | false =>
      rw [if_pos (show b2i false = 0 from rfl)]
      exact ih (i + 1) n S1 (by omega) (by omega) hS1 (by rw [anyB, hB, hc]; rfl)
    | true =>
      rw [if_neg (show ¬ b2i true = 0 by decide)]
      have mono : ∀ q, anyB (cnt fu R lv on m) (i + 1 + q) = true := by
        intro q
        induction q with
        | zero => rw [Nat.add_zero, anyB, hc, Bool.or_true]
        | succ q ih =>
          show (anyB (cnt fu R lv on m) (i + 1 + q) || _) = true
          rw [ih, Bool.true_or]
      have := mono (2 ^ nF R m - (i + 1))
      rw [show i + 1 + (2 ^ nF R m - (i + 1)) = 2 ^ nF R m by omega] at this
      rw [show someM fu R lv on m = true from this]
      exact ⟨S1, rfl, hS1⟩
theorem af_ok {S : xM} (hfu : 70000 ≤ fu) (hW : FW fu lv on mn C R) (hS : xfr wrF R S) : ∃ S', F_X12_areFound fu S = some (b2i (allB (someM fu R lv on) mn), S') ∧ xfr wrF R S' := by
  have hb6 := hW.b16
  have loop : ∀ k m n S, m + k = mn → k < n → xfr wrF R S → allB (someM fu R lv on) m = true → ∃ S', F_X12_areFound_b2 fu n (nI m) S = some (b2i (allB (someM fu R lv on) mn), S') ∧ xfr wrF R S' := by
    intro k
    induction k with
    | zero =>
      intro m n S hi hn hS hB
      obtain ⟨n, rfl⟩ : ∃ z, n = z + 1 := ⟨n - 1, by omega⟩
      obtain rfl : m = mn := by omega
      rw [F_X12_areFound_b2, hS 0 32 rfl, hW.cc.2.2.2.2.2, if_pos (nI_le (Nat.le_refl _) (by omega)), hB]
      exact ⟨S, rfl, hS⟩
    | succ k ih =>
      intro m n S hi hn hS hB
      obtain ⟨n, rfl⟩ : ∃ z, n = z + 1 := ⟨n - 1, by omega⟩
      obtain ⟨S1, e1, hS1⟩ := if_loop hfu hW (show m < mn by omega) (2 ^ nF R m) 0 fu S (by omega) (by have := p2F hW (show m < mn by omega); omega) hS rfl
      rw [F_X12_areFound_b2, hS 0 32 rfl, hW.cc.2.2.2.2.2, if_neg (show ¬ nI mn ≤ nI m from nI_ge (by omega) (by omega)), show F_X12_isFound fu (nI m) S = _ from e1]
      simp only [Option.bind_some, add1]
      cases hs : someM fu R lv on m with
      | false =>
        rw [if_pos (show b2i false = 0 from rfl), allB_no hs (show m < mn by omega)]
        exact ⟨S1, rfl, hS1⟩
      | true =>
        rw [if_neg (show ¬ b2i true = 0 by decide)]
        exact ih (m + 1) n S1 (by omega) (by omega) hS1 (by rw [allB, hB, hs]; rfl)
  exact loop mn 0 fu S (by omega) (by omega) hS rfl
/-- the class: whether a LEVER leads all others of its OFFICE -/
theorem la_ok {M : xM} (hfu : 70000 ≤ fu) (hlv : lv ≤ 16) (hmn : mn ≤ 6) (ho : o < 6) (h10 : M 1 0 = nI lv) (h51 : M 5 1 = nI mn) (h11 : ∀ l, l < lv → (tb (M 11 o) l = true ↔ R 3 l = nI o)) {l : Nat} (hl : l < lv) (x3 : Int32) (f : Nat → Int32) (hf : ∀ b, b < lv → R 3 b = nI o → ¬ b = l → F_X8_lead fu (nI l) (nI b) x3 M = some (f b, M)) : F_X8_leadsAll fu (nI l) (nI o) x3 M = some (b2i (laB R lv o l f), M) := by
  have loop : ∀ k b n, b + k = lv → k < n → allB (fun b => decide (b = l) || !decide (R 3 b = nI o) || decide (1 ≤ f b)) b = true → F_X8_leadsAll_b3 fu (nI l) (nI o) x3 n (nI b) M = some (b2i (laB R lv o l f), M) := by
    intro k
    induction k with
    | zero =>
      intro b n hb hn hB
      obtain ⟨n, rfl⟩ : ∃ z, n = z + 1 := ⟨n - 1, by omega⟩
      obtain rfl : b = lv := by omega
      rw [F_X8_leadsAll_b3, h10, if_pos (nI_le (Nat.le_refl _) (by omega)), show laB R b o l f = true from hB]
      rfl
    | succ k ih =>
      intro b n hb hn hB
      obtain ⟨n, rfl⟩ : ∃ z, n = z + 1 := ⟨n - 1, by omega⟩
      have I := ih (b + 1) n (by omega) (by omega)
      rw [allB, hB, Bool.true_and] at I
      rw [F_X8_leadsAll_b3, h10, if_neg (show ¬ nI lv ≤ nI b from nI_ge (by omega) (by omega)), P_X0_leversOf, at_ok ho (by decide), has_tb (show b ≤ 30 by omega)]
      simp only [F_X8_leadsAll_b41, F_X8_leadsAll_b42, F_X8_leadsAll_b63, add1, if_true]
      by_cases e : b = l
      · rw [if_pos (by rw [e])]
        exact I (by rw [decide_eq_true e]; rfl)
      · rw [if_neg (fun z => e ((nI_eq (by omega) (by omega)).mp z))]
        by_cases hr : R 3 b = nI o
        · rw [(h11 b (by omega)).mpr hr, if_pos rfl, if_neg (show ¬ ((1 : Int32) = 0) by decide), if_neg (show ¬ ((1 : Int32) = 0) by decide), hf b (by omega) hr e]
          simp only [Option.bind_some]
          by_cases z : 1 ≤ f b
          · rw [if_pos z]
            exact I (by rw [decide_eq_true z, Bool.or_true])
          · rw [if_neg z]
            have : (decide (b = l) || !decide (R 3 b = nI o) || decide (1 ≤ f b)) = false := by
              rw [decide_eq_false e, decide_eq_true hr, decide_eq_false z]
              rfl
            rw [show laB R lv o l f = false from allB_no (f := fun b => decide (b = l) || !decide (R 3 b = nI o) || decide (1 ≤ f b)) this (show b < lv by omega)]
            rfl
        · have ht : tb (M 11 o) b = false := by
            cases hbb : tb (M 11 o) b with
            | false => rfl
            | true => exact absurd ((h11 b (by omega)).mp hbb) hr
          rw [ht, if_neg (show ¬ (false = true) by decide), if_pos rfl]
          exact I (by rw [decide_eq_false hr]; simp)
  exact loop lv 0 fu (by omega) (by omega) rfl
/-- the reference: whether a LEVER is the winner -/
theorem iw_ok {S : xM} (hfu : 70000 ≤ fu) (hW : FW fu lv on mn C R) (hS : xfr wrF R S) (ho : o < on) (hB0 : allB (someM fu R lv on) mn = true) {l : Nat} (hl : l < lv) (hrl : R 3 l = nI o) : ∃ S', F_X12_isWinner fu (nI l) S = some (b2i (laB R lv o l (fun b => sumM (fun m => ldC fu R lv on m o l b) mn)), S') ∧ xfr wrF R S' := by
  have hb6 := hW.b16
  have loop : ∀ k b n S, b + k = lv → k < n → xfr wrF R S → allB (fun b => decide (b = l) || !decide (R 3 b = nI o) || decide (1 ≤ sumM (fun m => ldC fu R lv on m o l b) mn)) b = true → ∃ S', F_X12_isWinner_b2 fu (nI l) n (nI b) S = some (b2i (laB R lv o l (fun b => sumM (fun m => ldC fu R lv on m o l b) mn)), S') ∧ xfr wrF R S' := by
    intro k
    induction k with
    | zero =>
      intro b n S hb hn hS hB
      obtain ⟨n, rfl⟩ : ∃ z, n = z + 1 := ⟨n - 1, by omega⟩
      have e : b = lv := by omega
      rw [e] at hB
      rw [e, F_X12_isWinner_b2, hS 0 1 rfl, hW.cc.2.2.2.1, if_pos (nI_le (Nat.le_refl _) (by omega))]
      refine ⟨S, ?_, hS⟩
      rw [show laB R lv o l (fun b => sumM (fun m => ldC fu R lv on m o l b) mn) = true from hB]
      rfl
    | succ k ih =>
      intro b n S hb hn hS hB
      obtain ⟨n, rfl⟩ : ∃ z, n = z + 1 := ⟨n - 1, by omega⟩
      have I := fun S => ih (b + 1) n S (by omega) (by omega)
      rw [allB, hB, Bool.true_and] at I
      rw [F_X12_isWinner_b2, hS 0 1 rfl, hW.cc.2.2.2.1, if_neg (show ¬ nI lv ≤ nI b from nI_ge (by omega) (by omega))]
      simp only [F_X12_isWinner_b42, add1]
      by_cases e : b = l
      · rw [if_pos (by rw [e])]
        exact I S hS (by rw [decide_eq_true e]; rfl)
      · rw [if_neg (fun z => e ((nI_eq (by omega) (by omega)).mp z)), if_neg (idx_no (show b < 16 by omega) (by decide)), if_neg (idx_no (show l < 16 by omega) (by decide)), nI_clamp (by omega), nI_clamp (by omega), hS 3 b rfl, hS 3 l rfl, hrl]
        by_cases hr : R 3 b = nI o
        · obtain ⟨S1, e1, hS1⟩ := ao_ok hfu hW hS ho hl (show b < lv by omega) hrl hr
          rw [if_pos hr, e1, hB0, if_pos rfl]
          simp only [Option.bind_some]
          by_cases z : 1 ≤ sumM (fun m => ldC fu R lv on m o l b) mn
          · rw [if_pos z]
            exact I S1 hS1 (by rw [decide_eq_true z, Bool.or_true])
          · rw [if_neg z]
            have : (decide (b = l) || !decide (R 3 b = nI o) || decide (1 ≤ sumM (fun m => ldC fu R lv on m o l b) mn)) = false := by
              rw [decide_eq_false e, decide_eq_true hr, decide_eq_false z]
              rfl
            rw [show laB R lv o l (fun b => sumM (fun m => ldC fu R lv on m o l b) mn) = false from allB_no (f := fun b => decide (b = l) || !decide (R 3 b = nI o) || decide (1 ≤ sumM (fun m => ldC fu R lv on m o l b) mn)) this (show b < lv by omega)]
            exact ⟨S1, rfl, hS1⟩
        · rw [if_neg hr]
          exact I S hS (by rw [decide_eq_false hr]; simp)
  exact loop lv 0 fu S (by omega) (by omega) hS rfl
theorem op_wins (hfu : 70000 ≤ fu) (x1 : Int32) (hW : FW fu lv on mn C R) : ∃ v C' R', F_X11_wins fu x1 C = some (v, C') ∧ F_X12_wins fu x1 R = some (v, R') := by
  have hb6 := hW.b16
  unfold F_X11_wins F_X12_wins P_X0_isOffice
  rw [hW.cc.2.1, show (xset R 0 0 0) 0 7 = nI on from hW.cc.2.2.2.2.1, isIn_eq (N := C)]
  by_cases h1 : P_X1_within x1 0 (nI on - 1) C = 0
  · rw [if_pos h1, if_pos h1]
    exact ⟨-1, _, _, rfl, rfl⟩
  obtain ⟨o, ho, rfl⟩ := Classical.not_not.mp fun z => h1 ((withinm1 (by omega)).mpr z)
  rw [if_neg h1, if_neg h1]
  unfold F_X8_winner
  rw [P_X0_leversOf, at_ok (show o < 6 by omega) (by decide)]
  obtain ⟨C1, e1, hW1, ht⟩ := weigh_ok (x2 := C 11 o) hfu hW ho (fun a ha hx => (hW.h11 ho a ha).mp hx)
  obtain ⟨R1, e2, hR1⟩ := af_ok hfu hW (x00F R)
  have fr : xfr wr_X8_weigh C C1 := fr_X8_weigh _ _ _ _ _ e1
  rw [e1, e2]
  simp only [Option.bind_some]
  cases hB : allB (someM fu R lv on) mn with
  | false =>
    rw [if_pos (show b2i false = 0 from rfl), if_pos (show b2i false = 0 from rfl)]
    exact ⟨-1, C1, R1, rfl, rfl⟩
  | true =>
    rw [if_neg (show ¬ b2i true = 0 by decide), if_neg (show ¬ b2i true = 0 by decide)]
    have loop : ∀ k l n1 n2 S, l + k = lv → k < n1 → k < n2 → xfr wrF R S → ∃ v C' R', F_X8_winner_b20 fu (nI o) n1 (nI l) C1 = some (v, C') ∧ F_X12_wins_b30 fu (nI o) n2 (nI l) S = some (v, R') := by
      intro k
      induction k with
      | zero =>
        intro l n1 n2 S hl h1 h2 hS
        obtain ⟨n1, rfl⟩ : ∃ z, n1 = z + 1 := ⟨n1 - 1, by omega⟩
        obtain ⟨n2, rfl⟩ : ∃ z, n2 = z + 1 := ⟨n2 - 1, by omega⟩
        rw [F_X8_winner_b20, F_X12_wins_b30, hW1.cc.1, hS 0 1 rfl, hW.cc.2.2.2.1, if_pos (nI_le (by omega) (by omega)), if_pos (nI_le (by omega) (by omega))]
        exact ⟨_, _, _, rfl, rfl⟩
      | succ k ih =>
        intro l n1 n2 S hl h1 h2 hS
        obtain ⟨n1, rfl⟩ : ∃ z, n1 = z + 1 := ⟨n1 - 1, by omega⟩
        obtain ⟨n2, rfl⟩ : ∃ z, n2 = z + 1 := ⟨n2 - 1, by omega⟩
        have hll : l < lv := by omega
        rw [F_X8_winner_b20, F_X12_wins_b30, hW1.cc.1, hS 0 1 rfl, hW.cc.2.2.2.1, if_neg (show ¬ nI lv ≤ nI l from nI_ge (by omega) (by omega)), if_neg (show ¬ nI lv ≤ nI l from nI_ge (by omega) (by omega)), P_X0_leversOf, at_ok (show o < 6 by omega) (by decide), has_tb (show l ≤ 30 by omega), if_neg (idx_no (show l < 16 by omega) (by decide)), nI_clamp (by omega), hS 3 l rfl]
        simp only [F_X8_winner_b58, F_X12_wins_b58, add1]
        by_cases hr : R 3 l = nI o
        · have htl := (hW1.h11 ho l hll).mpr hr
          have hla := la_ok (R := R) hfu hb6.1 hb6.2.2 (show o < 6 by omega) hW1.cc.1 hW1.cc.2.2.1 (hW1.h11 ho) hll 0 (fun b => sumM (fun m => ldC fu R lv on m o l b) mn) (fun b hb hrb hne => ld_loop (fu := fu) (M := C1) hW1.cc.2.2.1 hb6.2.2 (show l < 16 by omega) (show b < 16 by omega) 0 (fun m => ldC fu R lv on m o l b) (fun m hm => by
            rw [tb_0, if_neg (by decide)]
            exact ht hB m hm l b hll hb ((hW.h11 ho l hll).mpr hr) hrb) mn 0 fu (by omega) (by omega))
          obtain ⟨S1, e3, hS1⟩ := iw_ok hfu hW hS ho hB hll hr
          rw [htl, if_pos rfl, if_neg (show ¬ ((1 : Int32) = 0) by decide), if_pos hr, hla, e3]
          simp only [Option.bind_some]
          by_cases z : b2i (laB R lv o l (fun b => sumM (fun m => ldC fu R lv on m o l b) mn)) = 0
          · rw [if_pos z, if_pos z]
            exact ih (l + 1) n1 n2 S1 (by omega) (by omega) (by omega) hS1
          · rw [if_neg z, if_neg z]
            exact ⟨_, _, _, rfl, rfl⟩
        · have htl : tb (C1 11 o) l = false := by
            cases hbb : tb (C1 11 o) l with
            | false => rfl
            | true => exact absurd ((hW1.h11 ho l hll).mp hbb) hr
          rw [htl, if_neg (show ¬ (false = true) by decide), if_pos rfl, if_neg hr]
          exact ih (l + 1) n1 n2 S (by omega) (by omega) (by omega) hS
    obtain ⟨v, C', R', a1, a2⟩ := loop lv 0 fu fu R1 (by omega) (by omega) (by omega) hR1
    rw [show F_X8_winner_b20 fu (nI o) fu 0 C1 = _ from a1]
    exact ⟨v, C', R', rfl, a2⟩
end WINS
