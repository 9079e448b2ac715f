/-! LEADS: all MACHINES; ahead, joinedAhead, wins -/
abbrev ldC (fu : Nat) (R : xM) (lv on m o a b : Nat) : Int32 := mnC (cnt fu R lv on m) (adv fu R lv m o a b) (2 ^ nF R m)
abbrev someM (fu : Nat) (R : xM) (lv on m : Nat) : Bool := anyB (cnt fu R lv on m) (2 ^ nF R m)
/-- the class's table of one MACHINE -/
def TB (fu : Nat) (R M : xM) (r lv on o : Nat) (x2 : Int32) (f : Nat → Nat → Nat → Int32) (m : Nat) : Prop := ∀ a b, a < lv → b < lv → tb x2 a = true → R 3 b = nI o → M r (pr m a b) = f m a b
section LEAD2
variable {R C : xM} {m lv on mn fu o : Nat}
theorem FW.c39 {M M' : xM} (hW : FW fu lv on mn M R) (h : ∀ k j, k ≠ 39 → k ≠ 40 → M' k j = M k j) : FW fu lv on mn M' R := hW.fr (wc := [(39, none), (40, none)]) (wr := []) (fun k j hk => h k j (by
  rintro rfl
  exact absurd hk (by simp [xin])) (by
  rintro rfl
  exact absurd hk (by simp [xin]))) xfr.rf (by decide) (by decide)
theorem FW.h11 (hW : FW fu lv on mn C R) (ho : o < on) : ∀ l, l < lv → (tb (C 11 o) l = true ↔ R 3 l = nI o) := fun l hl => (rb_ok hW).2 o ho l hl
theorem FW.cc (hW : FW fu lv on mn C R) : C 1 0 = nI lv ∧ C 1 1 = nI on ∧ C 5 1 = nI mn ∧ R 0 1 = nI lv ∧ R 0 7 = nI on ∧ R 0 32 = nI mn := by
  obtain ⟨h1, h2, h3, h4, h5, h6, h7, e1, e2, e3, e4, e5, e6, b1, b2, b3⟩ := hW
  exact ⟨e4, e5, e6, e1, e2, e3⟩
/-- a table is laid far above -/
theorem fill_loop {ρ : Type} {r : Nat} (hm : m < 6) {M0 : xM} (F : Nat → Int32 → xM → Option ρ) (G : xM → Option ρ) (hG : ∀ n M, F (n + 1) (nI 256) M = G M) (hF : ∀ n i M, i < 256 → F (n + 1) (nI i) M = (F_X1_put r 1536 (nI m * 256 + nI i) 1000000 M).bind fun q => F n (nI i + 1) q) : ∀ k i n M, i + k = 256 → k < n → (∀ k j, k ≠ r → M k j = M0 k j) → (∀ j, j < m * 256 ∨ m * 256 + 256 ≤ j → M r j = M0 r j) → (∀ j, j < i → M r (m * 256 + j) = 1000000) → ∃ M', F n (nI i) M = G M' ∧ (∀ k j, k ≠ r → M' k j = M0 k j) ∧ (∀ j, j < m * 256 ∨ m * 256 + 256 ≤ j → M' r j = M0 r j) ∧ ∀ j, j < 256 → M' r (m * 256 + j) = 1000000 := by
  intro k
  induction k with
  | zero =>
    intro i n M hi hn h1 h2 h3
    obtain ⟨n, rfl⟩ : ∃ z, n = z + 1 := ⟨n - 1, by omega⟩
    obtain rfl : i = 256 := by omega
    exact ⟨M, hG n M, h1, h2, h3⟩
  | succ k ih =>
    intro i n M hi hn h1 h2 h3
    obtain ⟨n, rfl⟩ : ∃ z, n = z + 1 := ⟨n - 1, by omega⟩
    rw [hF n i M (by omega), show nI m * 256 + nI i = nI (m * 256 + i) by rw [show (256 : Int32) = nI 256 from rfl, pk_mul, nI_add], put_ok (show m * 256 + i < 1536 by omega) (by decide)]
    simp only [Option.bind_some, add1]
    refine ih (i + 1) n _ (by omega) (by omega) (fun k j hk => ?_) (fun j hj => ?_) (fun j hj => ?_)
    · rw [← h1 k j hk]
      unfold xset
      rw [if_neg (fun z => hk z.1)]
    · rw [← h2 j hj]
      unfold xset
      rw [if_neg (fun z => by have := z.2; omega)]
    · by_cases e : j = i
      · subst e
        simp [xset]
      · rw [← h3 j (by omega)]
        unfold xset
        rw [if_neg (fun z => by have := z.2; omega)]
/-- the sets of one MACHINE -/
theorem ws_loop (hfu : 70000 ≤ fu) (ho : o < on) {x2 : Int32} (hA : ∀ a, a < lv → tb x2 a = true → R 3 a = nI o) (hm : m < mn) (K : Int32 → xM → Option (Int32 × xM)) {M0 : xM} : ∀ k i n M, i + k = 2 ^ nF R m → k < n → FW fu lv on mn M R → (∀ j, j < m * 256 ∨ m * 256 + 256 ≤ j → M 39 j = M0 39 j) → TB fu R M 39 lv on o x2 (fun m a b => mnC (cnt fu R lv on m) (adv fu R lv m o a b) i) m → ∃ M', F_X8_weigh_b53 fu (nI o) x2 K n (nI m) (b2i (anyB (cnt fu R lv on m) i)) (nI i) M = (if someM fu R lv on m = true then K (nI (m + 1)) M' else some (0, M')) ∧ FW fu lv on mn M' R ∧ (∀ j, j < m * 256 ∨ m * 256 + 256 ≤ j → M' 39 j = M0 39 j) ∧ TB fu R M' 39 lv on o x2 (ldC fu R lv on · o) m := by
  intro k
  induction k with
  | zero =>
    intro i n M hi hn hW hM hT
    obtain ⟨n, rfl⟩ : ∃ z, n = z + 1 := ⟨n - 1, by omega⟩
    have hp := p2F hW hm
    obtain rfl : i = 2 ^ nF R m := by omega
    refine ⟨M, ?_, hW, hM, fun a b g1 g2 g3 g4 => hT a b g1 g2 g3 g4⟩
    rw [F_X8_weigh_b53, setsC hW hm, if_pos (nI_le (Nat.le_refl _) (by omega)), add1]
    cases hs : anyB (cnt fu R lv on m) (2 ^ nF R m) with
    | false => rw [show someM fu R lv on m = false from hs, if_pos (show b2i false = 0 from rfl), if_neg (show ¬ (false = true) by decide)]
    | true => rw [show someM fu R lv on m = true from hs, if_neg (show ¬ b2i true = 0 by decide), if_pos rfl]
  | succ k ih =>
    intro i n M hi hn hW hM hT
    obtain ⟨n, rfl⟩ : ∃ z, n = z + 1 := ⟨n - 1, by omega⟩
    have hp := p2F hW hm
    have hb := hW.b16
    obtain ⟨M1, e1, hW1, f1, c1⟩ := cC hfu hW hm (show i < 2 ^ nF R m by omega)
    have I := ih (i + 1) n
    rw [anyB] at I
    rw [F_X8_weigh_b53, setsC hW hm, if_neg (show ¬ nI (2 ^ nF R m) ≤ nI i from nI_ge (by omega) (by omega)), e1]
    simp only [Option.bind_some, F_X8_weigh_b90, add1]
    cases hc : cnt fu R lv on m i with
    | false =>
      rw [hc, Bool.or_false] at I
      rw [if_pos (show b2i false = 0 from rfl)]
      refine I M1 (by omega) (by omega) hW1 (fun j hj => (f1 39 j rfl).trans (hM j hj)) (fun a b ha hbb hx hr => ?_)
      rw [f1 39 _ rfl, hT a b ha hbb hx hr]
      show _ = mnC _ _ (i + 1)
      rw [mnC, hc, if_neg (by decide)]
    | true =>
      rw [hc, Bool.or_true] at I
      rw [if_neg (show ¬ b2i true = 0 by decide)]
      obtain ⟨M2, e2, g1, g2, g3⟩ := lw_ok (R := R) (M0 := M1) (r := 39) (o := o) (x2 := x2) hfu (Or.inl rfl) (hW.m6 hm) hb.1 (by omega) hW1.cc.1 (hW1.h11 ho)
      rw [e2]
      simp only [Option.bind_some]
      refine I M2 (by omega) (by omega) (hW1.c39 (fun k j h _ => g1 k j h)) (fun j hj => (g2 j hj).trans ((f1 39 j rfl).trans (hM j hj))) (fun a b ha hbb hx hr => ?_)
      rw [g3 a b ha hbb, if_pos ⟨hx, hr⟩, f1 39 _ rfl, hT a b ha hbb hx hr, (c1 hc a o ha ho (hA a ha hx)).1, (c1 hc b o hbb ho hr).2]
      show _ = mnC _ _ (i + 1)
      rw [mnC, hc, if_pos rfl]
      rfl
/-- all LEADS that some LEVERS have -/
theorem weigh_ok (hfu : 70000 ≤ fu) (hW : FW fu lv on mn C R) (ho : o < on) {x2 : Int32} (hA : ∀ a, a < lv → tb x2 a = true → R 3 a = nI o) : ∃ C', F_X8_weigh fu (nI o) x2 C = some (b2i (allB (someM fu R lv on) mn), C') ∧ FW fu lv on mn C' R ∧ (allB (someM fu R lv on) mn = true → ∀ m, m < mn → TB fu R C' 39 lv on o x2 (ldC fu R lv on · o) m) := by
  have loop : ∀ k m n M, m + k = mn → k < n → FW fu lv on mn M R → allB (someM fu R lv on) m = true → (∀ m', m' < m → TB fu R M 39 lv on o x2 (ldC fu R lv on · o) m') → ∃ C', F_X8_weigh_b2 fu (nI o) x2 n (nI m) M = some (b2i (allB (someM fu R lv on) mn), C') ∧ FW fu lv on mn C' R ∧ (allB (someM fu R lv on) mn = true → ∀ m, m < mn → TB fu R C' 39 lv on o x2 (ldC fu R lv on · o) m) := by
    intro k
    induction k with
    | zero =>
      intro m n M hk hn hW hB hT
      obtain ⟨n, rfl⟩ : ∃ z, n = z + 1 := ⟨n - 1, by omega⟩
      obtain rfl : m = mn := by omega
      rw [F_X8_weigh_b2, hW.cc.2.2.1, if_pos (nI_le (Nat.le_refl m) (by have := hW.b16; omega)), hB]
      exact ⟨M, rfl, hW, fun _ => hT⟩
    | succ k ih =>
      intro m n M hk hn hW hB hT
      obtain ⟨n, rfl⟩ : ∃ z, n = z + 1 := ⟨n - 1, by omega⟩
      have hb := hW.b16
      have hm6 : m < 6 := by omega
      rw [F_X8_weigh_b2, hW.cc.2.2.1, if_neg (show ¬ nI mn ≤ nI m from nI_ge (by omega) (by omega))]
      obtain ⟨M1, e1, g1, g2, g3⟩ := fill_loop (m := m) (r := 39) (M0 := M) hm6 (fun q i M => F_X8_weigh_b16 fu (nI o) x2 (F_X8_weigh_b2 fu (nI o) x2 n) q (nI m) i M) (fun M => F_X8_weigh_b53 fu (nI o) x2 (F_X8_weigh_b2 fu (nI o) x2 n) fu (nI m) 0 0 M) (fun q M => by
        show F_X8_weigh_b16 fu (nI o) x2 (F_X8_weigh_b2 fu (nI o) x2 n) (q + 1) (nI m) (nI 256) M = _
        rw [F_X8_weigh_b16, if_pos (show (256 : Int32) ≤ nI 256 by decide)]) (fun q i M hi => by
        show F_X8_weigh_b16 fu (nI o) x2 (F_X8_weigh_b2 fu (nI o) x2 n) (q + 1) (nI m) (nI i) M = _
        rw [F_X8_weigh_b16, if_neg (show ¬ (256 : Int32) ≤ nI i from nI_ge (b := 256) hi (by decide))]) 256 0 fu M (by omega) (by omega) (fun _ _ _ => rfl) (fun _ _ => rfl) (fun j hj => absurd hj (by omega))
      have hW1 : FW fu lv on mn M1 R := hW.c39 (fun k j h _ => g1 k j h)
      have hp := p2F hW (show m < mn by omega)
      obtain ⟨M2, e2, hW2, k1, k2⟩ := ws_loop (o := o) (x2 := x2) (M0 := M) hfu ho hA (show m < mn by omega) (F_X8_weigh_b2 fu (nI o) x2 n) (2 ^ nF R m) 0 fu M1 (by omega) (by omega) hW1 g2 (fun a b ha hbb _ _ => by
        show M1 39 (pr m a b) = 1000000
        rw [← g3 (a * 16 + b) (by omega)]
        unfold pr
        rw [Nat.add_assoc])
      have e1' : F_X8_weigh_b16 fu (nI o) x2 (F_X8_weigh_b2 fu (nI o) x2 n) fu (nI m) 0 M = F_X8_weigh_b53 fu (nI o) x2 (F_X8_weigh_b2 fu (nI o) x2 n) fu (nI m) 0 0 M1 := e1
      rw [e1', show F_X8_weigh_b53 fu (nI o) x2 (F_X8_weigh_b2 fu (nI o) x2 n) fu (nI m) 0 0 M1 = _ from e2]
      cases hs : someM fu R lv on m with
      | false =>
        rw [if_neg (show ¬ (false = true) by decide), allB_no hs (show m < mn by omega)]
        exact ⟨M2, rfl, hW2, fun z => absurd z (by decide)⟩
      | true =>
        rw [if_pos rfl]
        refine ih (m + 1) n M2 (by omega) (by omega) hW2 (by rw [allB, hB, hs]; rfl) (fun m' hm' a b ha hbb hx hr => ?_)
        by_cases e : m' = m
        · subst e
          exact k2 a b ha hbb hx hr
        · rw [k1 (pr m' a b) (by unfold pr; omega)]
          exact hT m' (by omega) a b ha hbb hx hr
  exact loop mn 0 fu C (by omega) (by have := hW.b16; omega) hW rfl (fun m' h => absurd h (by omega))
-- the reference
theorem now_ok {S : xM} {l b : Nat} {la ha lb hb : Nat} (hl : l < 16) (hb16 : b < 16) (h3 : S 3 l = nI o) (h1 : RD fu S o l la ha) (h2 : RD fu S o b lb hb) : F_X12_aheadNow fu (nI l) (nI b) S = some (nI la - nI hb, S) := by
  obtain ⟨bo, sm, r1, r2, r3, r4⟩ := h2
  unfold F_X12_aheadNow
  rw [if_neg (idx_no hl (by decide)), if_neg (idx_no hl (by decide)), nI_clamp (by omega), nI_clamp (by omega), h3, r1]
  simp only [Option.bind_some]
  rw [r2]
  simp only [Option.bind_some]
  rw [if_neg (idx_no2 hb16 (by decide)), r3, r4, h1.lo]
  rfl
theorem ai_loop (hfu : 70000 ≤ fu) (hW : FW fu lv on mn C R) (ho : o < on) (hm : m < mn) {l b : Nat} (hl : l < lv) (hb : b < lv) (hrl : R 3 l = nI o) (hrb : R 3 b = nI o) : ∀ k i n S, i + k = 2 ^ nF R m → k < n → xfr wrF R S → ∃ S', F_X12_aheadIn_b8 fu (nI m) (nI l) (nI b) (-1) n (mnH (cnt fu R lv on m) (adv fu R lv m o l b) i) (nI i) S = some (mnH (cnt fu R lv on m) (adv fu R lv m o l b) (2 ^ nF R m), S') ∧ xfr wrF R S' := by
  have hp := p2F hW hm
  have hm6 := hW.m6 hm
  have hb6 := hW.b16
  intro k
  induction k with
  | zero =>
    intro i n S hi hn hS
    obtain ⟨n, rfl⟩ : ∃ z, n = z + 1 := ⟨n - 1, by omega⟩
    obtain rfl : i = 2 ^ nF R m := by omega
    rw [F_X12_aheadIn_b8, if_neg (idx_no hm6 (by decide)), nI_clamp (by omega), setsR hW hS hm, if_pos (nI_le (Nat.le_refl _) (by omega))]
    exact ⟨S, rfl, hS⟩
  | succ k ih =>
    intro i n S hi hn hS
    obtain ⟨n, rfl⟩ : ∃ z, n = z + 1 := ⟨n - 1, by omega⟩
    obtain ⟨S1, e1, hS1, c1⟩ := cR hfu hW hS hm i
    have I := ih (i + 1) n
    rw [mnH] at I
    rw [F_X12_aheadIn_b8, if_neg (idx_no hm6 (by decide)), nI_clamp (by omega), setsR hW hS hm, if_neg (show ¬ nI (2 ^ nF R m) ≤ nI i from nI_ge (by omega) (by omega)), if_pos rfl, e1]
    simp only [Option.bind_some, F_X12_aheadIn_b59, F_X12_aheadIn_b97, F_X12_aheadIn_b99, add1]
    cases hc : cnt fu R lv on m i with
    | false =>
      rw [hc, if_neg (by decide)] at I
      rw [if_pos (show b2i false = 0 from rfl)]
      exact I S1 (by omega) (by omega) hS1
    | true =>
      rw [hc, if_pos rfl] at I
      rw [if_neg (show ¬ b2i true = 0 by decide), now_ok (o := o) (show l < 16 by omega) (show b < 16 by omega) (by rw [hS1 3 l rfl]; exact hrl) (c1 hc l o hl ho hrl) (c1 hc b o hb ho hrb)]
      simp only [Option.bind_some]
      by_cases z : mnH (cnt fu R lv on m) (adv fu R lv m o l b) i = -100000
      · rw [if_pos z] at I
        rw [if_pos z]
        exact I S1 (by omega) (by omega) hS1
      · rw [if_neg z] at I
        rw [if_neg z]
        exact I S1 (by omega) (by omega) hS1
theorem ai_ok {S : xM} (hfu : 70000 ≤ fu) (hW : FW fu lv on mn C R) (hS : xfr wrF R S) (ho : o < on) (hm : m < mn) {l b : Nat} (hl : l < lv) (hb : b < lv) (hrl : R 3 l = nI o) (hrb : R 3 b = nI o) : ∃ S', F_X12_aheadIn fu (nI m) (nI l) (nI b) (-1) S = some (if someM fu R lv on m = true then ldC fu R lv on m o l b else -100000, S') ∧ xfr wrF R S' ∧ (someM fu R lv on m = true → bd3 (ldC fu R lv on m o l b)) := by
  obtain ⟨S', e1, e2⟩ := ai_loop hfu hW ho hm hl hb hrl hrb (2 ^ nF R m) 0 fu S (by omega) (by have := p2F hW hm; omega) hS
  obtain ⟨q1, q2⟩ := mn_eq (p := cnt fu R lv on m) (f := adv fu R lv m o l b) (fun i _ => (adv_bd hW hm hl hb o i).1) (2 ^ nF R m)
  refine ⟨S', e1.trans ?_, e2, fun h => ?_⟩
  · cases hs : someM fu R lv on m with
    | false => rw [if_neg (by decide), (q2 hs).2]
    | true => rw [if_pos rfl, show ldC fu R lv on m o l b = _ from (q1 hs).1]
  · obtain ⟨g1, g2⟩ := q1 h
    unfold ldC
    rw [g1]
    exact g2
/-- the lead over MACHINES, by what each gives -/
def sumM (f : Nat → Int32) : Nat → Int32
  | 0 => 0
  | n + 1 => sumM f n + f n
theorem ao_loop (hfu : 70000 ≤ fu) (hW : FW fu lv on mn C R) (ho : o < on) {l b : Nat} (hl : l < lv) (hb : b < lv) (hrl : R 3 l = nI o) (hrb : R 3 b = nI o) : ∀ k m n S, m + k = mn → k < n → xfr wrF R S → allB (someM fu R lv on) m = true → ∃ S', F_X12_aheadOf_b5 fu (nI l) (nI b) n (sumM (fun m => ldC fu R lv on m o l b) m) (nI m) S = some (if allB (someM fu R lv on) mn = true then sumM (fun m => ldC fu R lv on m o l b) mn else -100000, S') ∧ xfr wrF R S' := by
  have hb6 := hW.b16
  intro k
  induction k with
  | zero =>
    intro m n S hi hn hS hB
    obtain ⟨n, rfl⟩ : ∃ z, n = z + 1 := ⟨n - 1, by omega⟩
    obtain rfl : m = mn := by omega
    rw [F_X12_aheadOf_b5, hS 0 32 rfl, hW.cc.2.2.2.2.2, if_pos (nI_le (Nat.le_refl _) (by omega)), hB, if_pos rfl]
    exact ⟨S, rfl, hS⟩
  | succ k ih =>
    intro m n S hi hn hS hB
    obtain ⟨n, rfl⟩ : ∃ z, n = z + 1 := ⟨n - 1, by omega⟩
    obtain ⟨S1, e1, hS1, hbd⟩ := ai_ok hfu hW hS ho (show m < mn by omega) hl hb hrl hrb
    rw [F_X12_aheadOf_b5, hS 0 32 rfl, hW.cc.2.2.2.2.2, if_neg (show ¬ nI mn ≤ nI m from nI_ge (by omega) (by omega)), e1]
    simp only [Option.bind_some, add1]
    cases hs : someM fu R lv on m with
    | false =>
      rw [if_neg (show ¬ (false = true) by decide), if_pos rfl, allB_no hs (show m < mn by omega), if_neg (show ¬ (false = true) by decide)]
      exact ⟨S1, rfl, hS1⟩
    | true =>
      rw [if_pos rfl, if_neg (bd3_ne (hbd hs))]
      exact ih (m + 1) n S1 (by omega) (by omega) hS1 (by rw [allB, hB, hs]; rfl)
theorem ao_ok {S : xM} (hfu : 70000 ≤ fu) (hW : FW fu lv on mn C R) (hS : xfr wrF R S) (ho : o < on) {l b : Nat} (hl : l < lv) (hb : b < lv) (hrl : R 3 l = nI o) (hrb : R 3 b = nI o) : ∃ S', F_X12_aheadOf fu (nI l) (nI b) S = some (if allB (someM fu R lv on) mn = true then sumM (fun m => ldC fu R lv on m o l b) mn else -100000, S') ∧ xfr wrF R S' :=
  ao_loop hfu hW ho hl hb hrl hrb mn 0 fu S (by omega) (by have := hW.b16; omega) hS rfl
/-- the lead, out of the class's tables -/
theorem ld_loop {M : xM} (hc5 : M 5 1 = nI mn) (hmn : mn ≤ 6) {l b : Nat} (hl : l < 16) (hb : b < 16) (x3 : Int32) (f : Nat → Int32) (hf : ∀ m, m < mn → (if tb x3 m = true then M 40 (pr m l b) else M 39 (pr m l b)) = f m) : ∀ k m n, m + k = mn → k < n → F_X8_lead_b6 fu (nI l) (nI b) x3 n (sumM f m) (nI m) M = some (sumM f mn, M) := by
  intro k
  induction k with
  | zero =>
    intro m n hi hn
    obtain ⟨n, rfl⟩ : ∃ z, n = z + 1 := ⟨n - 1, by omega⟩
    obtain rfl : m = mn := by omega
    rw [F_X8_lead_b6, hc5, if_pos (nI_le (Nat.le_refl _) (by omega))]
  | succ k ih =>
    intro m n hi hn
    obtain ⟨n, rfl⟩ : ∃ z, n = z + 1 := ⟨n - 1, by omega⟩
    have I := ih (m + 1) n (by omega) (by omega)
    have hfm := hf m (by omega)
    rw [sumM, ← hfm] at I
    have hpr : pr m l b < 1536 := by
      unfold pr
      omega
    rw [F_X8_lead_b6, hc5, if_neg (show ¬ nI mn ≤ nI m from nI_ge (by omega) (by omega)), has_tb (show m ≤ 30 by omega)]
    simp only [F_X8_lead_b38, pair_ok, at_ok hpr (show 1536 ≤ 1000000 by decide), add1]
    cases ht : tb x3 m with
    | false =>
      rw [ht, if_neg (by decide)] at I
      rw [if_neg (show ¬ (false = true) by decide), if_pos rfl]
      exact I
    | true =>
      rw [ht, if_pos rfl] at I
      rw [if_pos rfl, if_neg (show ¬ ((1 : Int32) = 0) by decide)]
      exact I
theorem bit1 {a l : Nat} (ha : a < 16) (hl : l < 16) {M : xM} : tb (P_X1_bit (nI a) M) l = decide (l = a) := by
  rw [bit_eq (by omega), tb_bit (by omega) (by omega)]
theorem ll_ok (hfu : 70000 ≤ fu) (x1 x2 : Int32) (hW : FW fu lv on mn C R) : ∃ v C' R', F_X8_leastLead fu x1 x2 C = some (v, C') ∧ F_X12_ahead fu x1 x2 R = some (v, R') ∧ xfr wrF R R' ∧ (∀ k j, k = 41 ∨ k = 42 → C' k j = C k j) ∧ (¬ v = -100000 → ∃ a b, a < 16 ∧ b < 16 ∧ x1 = nI a ∧ x2 = nI b) := by
  have hb6 := hW.b16
  unfold F_X8_leastLead F_X12_ahead
  rcases hW.of hfu x1 with ⟨a, o, ha, ho, rfl, hra, f1, f2⟩ | ⟨f1, f2⟩
  rotate_left
  · rw [f1, f2]
    exact ⟨-100000, C, xset R 0 0 0, rfl, rfl, x00F R, fun _ _ _ => rfl, fun z => absurd rfl z⟩
  rw [f1, f2]
  simp only [Option.bind_some]
  rw [if_neg (show ¬ nI o = -1 from nIm1 (by omega)), if_neg (show ¬ ((1 : Int32) = 0) by decide)]
  rcases hW.of hfu x2 with ⟨b, o2, hb, ho2, rfl, hrb, k1, k2⟩ | ⟨k1, k2⟩
  rotate_left
  · rw [k1, k2]
    refine ⟨-100000, C, xset R 0 0 0, ?_, rfl, x00F R, fun _ _ _ => rfl, fun z => absurd rfl z⟩
    by_cases z : nI a = x2
    · rw [if_pos z]
    · rw [if_neg z]
      simp only [Option.bind_some]
      rw [if_neg (fun y => nIm1 (show o < 2 ^ 31 by omega) y.symm)]
  rw [k1, k2]
  simp only [Option.bind_some]
  rw [if_neg (show ¬ ((1 : Int32) = 0) by decide)]
  by_cases hab : nI a = nI b
  · rw [if_pos hab, if_pos hab]
    exact ⟨-100000, C, xset R 0 0 0, rfl, rfl, x00F R, fun _ _ _ => rfl, fun z => absurd rfl z⟩
  rw [if_neg hab, if_neg hab, if_neg (idx_no (show a < 16 by omega) (by decide)), if_neg (idx_no (show b < 16 by omega) (by decide)), nI_clamp (by omega), nI_clamp (by omega), show (xset R 0 0 0) 3 a = nI o from hra, show (xset R 0 0 0) 3 b = nI o2 from hrb]
  by_cases hoo : o = o2
  rotate_left
  · rw [if_neg (fun z => hoo ((nI_eq (by omega) (by omega)).mp z).symm), if_neg (fun z => hoo ((nI_eq (by omega) (by omega)).mp z))]
    exact ⟨-100000, C, xset R 0 0 0, rfl, rfl, x00F R, fun _ _ _ => rfl, fun z => absurd rfl z⟩
  subst hoo
  rw [if_pos rfl, if_pos rfl]
  have hA : ∀ l, l < lv → tb (P_X1_bit (nI a) C) l = true → R 3 l = nI o := fun l hl ht => by
    rw [bit1 (by omega) (by omega)] at ht
    rw [of_decide_eq_true ht]
    exact hra
  obtain ⟨C1, e1, hW1, ht⟩ := weigh_ok hfu hW ho hA
  have fr : xfr wr_X8_weigh C C1 := fr_X8_weigh _ _ _ _ _ e1
  obtain ⟨R1, e2, hR1⟩ := ao_ok hfu hW (x00F R) ho ha hb hra hrb
  have h41 : ∀ k j, k = 41 ∨ k = 42 → C1 k j = C k j := fun k j hk => by
    rcases hk with rfl | rfl
    · exact fr 41 j rfl
    · exact fr 42 j rfl
  rw [e1, e2]
  simp only [Option.bind_some]
  cases hB : allB (someM fu R lv on) mn with
  | false =>
    rw [if_pos (show b2i false = 0 from rfl), if_neg (show ¬ (false = true) by decide)]
    exact ⟨-100000, C1, R1, rfl, rfl, hR1, h41, fun z => absurd rfl z⟩
  | true =>
    rw [if_neg (show ¬ b2i true = 0 by decide), if_pos rfl]
    have e3 := ld_loop (fu := fu) (M := C1) hW1.cc.2.2.1 hb6.2.2 (show a < 16 by omega) (show b < 16 by omega) 0 (fun m => ldC fu R lv on m o a b) (fun m hm => by
      rw [tb_0, if_neg (by decide)]
      exact ht hB m hm a b ha hb (by rw [bit1 (by omega) (by omega)]; exact decide_eq_true rfl) hrb) mn 0 fu (by omega) (by omega)
    rw [show F_X8_lead fu (nI a) (nI b) 0 C1 = _ from e3]
    exact ⟨_, C1, R1, rfl, rfl, hR1, h41, fun _ => ⟨a, b, by omega, by omega, rfl, rfl⟩⟩
theorem op_ahead (hfu : 70000 ≤ fu) (x1 x2 : Int32) (hW : FW fu lv on mn C R) : ∃ v C' R', F_X11_ahead fu x1 x2 C = some (v, C') ∧ F_X12_ahead fu x1 x2 R = some (v, R') := by
  obtain ⟨v, C', R', e1, e2, _⟩ := ll_ok hfu x1 x2 hW
  unfold F_X11_ahead
  rw [e1]
  exact ⟨v, C', R', rfl, e2⟩
theorem op_joinedAhead (hfu : 70000 ≤ fu) (x1 x2 : Int32) (hW : FW fu lv on mn C R) (hA : RA C R) : ∃ v C' R', F_X11_joinedAhead fu x1 x2 C = some (v, C') ∧ F_X12_joinedAhead fu x1 x2 R = some (v, R') := by
  obtain ⟨v, C', R', e1, e2, hR, h41, hx⟩ := ll_ok hfu x1 x2 hW
  unfold F_X11_joinedAhead F_X12_joinedAhead
  rw [e1, e2]
  simp only [Option.bind_some]
  by_cases z : v = -100000
  · rw [if_pos z, if_pos z]
    exact ⟨-100000, C', R', rfl, rfl⟩
  · obtain ⟨a, b, ha, hb, rfl, rfl⟩ := hx z
    rw [if_neg z, if_neg z, if_neg (idx_no ha (by decide)), if_neg (idx_no hb (by decide)), nI_clamp (by omega), nI_clamp (by omega), P_X8_leastAbsent, P_X8_mostAbsent, at_ok ha (by decide), at_ok hb (by decide), h41 41 a (Or.inl rfl), h41 42 b (Or.inr rfl), hR 36 a rfl, hR 37 b rfl, (hA a ha).1, (hA b hb).2]
    exact ⟨_, C', R', rfl, rfl⟩
end LEAD2
