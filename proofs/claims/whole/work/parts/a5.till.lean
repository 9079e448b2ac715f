/-! till: what OPENING gives -/
def fwN (fu : Nat) (R : xM) (lv on m : Nat) : Nat := (fwl fu R lv on m).toNatClampNeg
abbrev opC (fu : Nat) (R : xM) (lv on m o a b : Nat) : Int32 := adv fu R lv m o a b (fwN fu R lv on m)
def coN (R : xM) (s : Nat) : Nat → Nat
  | 0 => 0
  | m + 1 => coN R s m + (if s.testBit m = true then (R 14 m).toNatClampNeg else 0)
section TILL
variable {R C : xM} {m lv on mn fu o : Nat}
theorem any_ex {p : Nat → Bool} : ∀ {n : Nat}, anyB p n = true → ∃ i, i < n ∧ p i = true := by
  intro n
  induction n with
  | zero => exact fun h => absurd (show false = true from h) (by decide)
  | succ n ih =>
    intro h
    rw [anyB, Bool.or_eq_true] at h
    rcases h with h | h
    · obtain ⟨i, hi, e⟩ := ih h
      exact ⟨i, by omega, e⟩
    · exact ⟨n, by omega, h⟩
theorem fw_ok (hW : FW fu lv on mn C R) (hm : m < mn) (h : someM fu R lv on m = true) : fwl fu R lv on m = nI (fwN fu R lv on m) ∧ fwN fu R lv on m < 2 ^ nF R m ∧ fitP fu R lv on m (fwN fu R lv on m) = true := by
  have hp := p2F hW hm
  obtain ⟨i, hi, hc⟩ := any_ex h
  have hf : fitP fu R lv on m i = true := by
    unfold cnt at hc
    rw [Bool.and_eq_true] at hc
    exact hc.2
  rcases bst_in (fitP fu R lv on m) (2 ^ nF R m) with ⟨_, z⟩ | ⟨j, hj, e, hfj⟩
  · rw [z i hi] at hf
    exact absurd hf (by decide)
  · have ej : fwN fu R lv on m = j := by
      unfold fwN fwl
      rw [e, nI_clamp (by omega)]
    rw [ej]
    exact ⟨e, hj, hfj⟩
/-- the class: LEADS of MACHINES if they were OPENED -/
theorem wo_ok (hfu : 70000 ≤ fu) (hW : FW fu lv on mn C R) (ho : o < on) {x2 : Int32} (hA : ∀ a, a < lv → tb x2 a = true → R 3 a = nI o) (hB : allB (someM fu R lv on) mn = true) : ∃ C', F_X8_weighOpened fu (nI o) x2 C = some C' ∧ FW fu lv on mn C' R ∧ (∀ j, C' 39 j = C 39 j) ∧ ∀ m, m < mn → TB fu R C' 40 lv on o x2 (opC fu R lv on · o) m := by
  have hb6 := hW.b16
  have loop : ∀ k m n M, m + k = mn → k < n → FW fu lv on mn M R → (∀ j, M 39 j = C 39 j) → (∀ m', m' < m → TB fu R M 40 lv on o x2 (opC fu R lv on · o) m') → ∃ C', F_X8_weighOpened_b2 fu (nI o) x2 n (nI m) M = some C' ∧ FW fu lv on mn C' R ∧ (∀ j, C' 39 j = C 39 j) ∧ ∀ m, m < mn → TB fu R C' 40 lv on o x2 (opC fu R lv on · o) m := by
    intro k
    induction k with
    | zero =>
      intro m n M hk hn hW h39 hT
      obtain ⟨n, rfl⟩ : ∃ z, n = z + 1 := ⟨n - 1, by omega⟩
      obtain rfl : m = mn := by omega
      rw [F_X8_weighOpened_b2, hW.cc.2.2.1, if_pos (nI_le (Nat.le_refl m) (by omega))]
      exact ⟨M, rfl, hW, h39, hT⟩
    | succ k ih =>
      intro m n M hk hn hW h39 hT
      obtain ⟨n, rfl⟩ : ∃ z, n = z + 1 := ⟨n - 1, by omega⟩
      have hm6 : m < 6 := by omega
      have hmn : m < mn := by omega
      have hp := p2F hW hmn
      have hs := allB_at hB m hmn
      obtain ⟨w1, w2, w3⟩ := fw_ok hW hmn hs
      rw [F_X8_weighOpened_b2, hW.cc.2.2.1, if_neg (show ¬ nI mn ≤ nI m from nI_ge (by omega) (by omega))]
      obtain ⟨M1, e1, g1, g2, g3⟩ := fill_loop (m := m) (r := 40) (M0 := M) hm6 (fun q i M => F_X8_weighOpened_b16 fu (nI o) x2 (F_X8_weighOpened_b2 fu (nI o) x2 n) q (nI m) i M) (fun M => F_X8_weighOpened_b16 fu (nI o) x2 (F_X8_weighOpened_b2 fu (nI o) x2 n) 1 (nI m) (nI 256) M) (fun q M => by
        show F_X8_weighOpened_b16 fu (nI o) x2 (F_X8_weighOpened_b2 fu (nI o) x2 n) (q + 1) (nI m) (nI 256) M = F_X8_weighOpened_b16 fu (nI o) x2 (F_X8_weighOpened_b2 fu (nI o) x2 n) (0 + 1) (nI m) (nI 256) M
        rw [F_X8_weighOpened_b16, F_X8_weighOpened_b16, if_pos (show (256 : Int32) ≤ nI 256 by decide), if_pos (show (256 : Int32) ≤ nI 256 by decide)]) (fun q i M hi => by
        show F_X8_weighOpened_b16 fu (nI o) x2 (F_X8_weighOpened_b2 fu (nI o) x2 n) (q + 1) (nI m) (nI i) M = _
        rw [F_X8_weighOpened_b16, if_neg (show ¬ (256 : Int32) ≤ nI i from nI_ge (b := 256) hi (by decide))]) 256 0 fu M (by omega) (by omega) (fun _ _ _ => rfl) (fun _ _ => rfl) (fun j hj => absurd hj (by omega))
      have hW1 : FW fu lv on mn M1 R := hW.c39 (fun k j _ h => g1 k j h)
      obtain ⟨M2, e2, hW2, f2⟩ := fewC hfu hW1 hmn
      obtain ⟨M3, e3, hW3, f3, c3⟩ := fC hfu hW2 hmn w2
      obtain ⟨M4, e4, k1, k2, k3⟩ := lw_ok (R := R) (M0 := M3) (r := 40) (o := o) (x2 := x2) hfu (Or.inr rfl) hm6 hb6.1 (by omega) hW3.cc.1 (hW3.h11 ho)
      have hW4 : FW fu lv on mn M4 R := hW3.c39 (fun k j _ h => k1 k j h)
      have e1' : F_X8_weighOpened_b16 fu (nI o) x2 (F_X8_weighOpened_b2 fu (nI o) x2 n) fu (nI m) 0 M = F_X8_weighOpened_b16 fu (nI o) x2 (F_X8_weighOpened_b2 fu (nI o) x2 n) (0 + 1) (nI m) (nI 256) M1 := e1
      rw [e1', F_X8_weighOpened_b16, if_pos (show (256 : Int32) ≤ nI 256 by decide), e2]
      simp only [Option.bind_some]
      rw [w1, e3, w3]
      simp only [Option.bind_some]
      rw [if_neg (show ¬ b2i true = 0 by decide), e4]
      simp only [Option.bind_some, F_X8_weighOpened_b77, add1]
      refine ih (m + 1) n M4 (by omega) (by omega) hW4 (fun j => ?_) (fun m' hm' a b ha hbb hx hr => ?_)
      · rw [k1 39 j (by decide), f3 39 j rfl, f2 39 j rfl, g1 39 j (by decide)]
        exact h39 j
      · by_cases e : m' = m
        · subst e
          rw [k3 a b ha hbb, if_pos ⟨hx, hr⟩, f3 40 _ rfl, f2 40 _ rfl, (c3 w3 a o ha ho (hA a ha hx)).1, (c3 w3 b o hbb ho hr).2]
          have hf : M1 40 (pr m' a b) = 1000000 := by
            rw [← g3 (a * 16 + b) (by omega)]
            unfold pr
            rw [Nat.add_assoc]
          rw [hf]
          exact jmin_far (adv_bd hW hmn ha hbb o (fwN fu R lv on m')).1
        · have hj : pr m' a b < m * 256 ∨ m * 256 + 256 ≤ pr m' a b := by
            unfold pr
            omega
          rw [k2 _ hj, f3 40 _ rfl, f2 40 _ rfl, g2 _ hj]
          exact hT m' (by omega) a b ha hbb hx hr
  exact loop mn 0 fu C (by omega) (by omega) hW (fun _ => rfl) (fun m' h => absurd h (by omega))
-- the reference
theorem ae_loop (hfu : 70000 ≤ fu) (hW : FW fu lv on mn C R) (ho : o < on) (hm : m < mn) {s : Nat} (hs : s < 2 ^ nF R m) (hf : fitP fu R lv on m s = true) {l b : Nat} (hl : l < lv) (hb : b < lv) (hrl : R 3 l = nI o) (hrb : R 3 b = nI o) : ∀ k i n S, i + k = 2 ^ nF R m → k < n → xfr wrF R S → ∃ S', F_X12_aheadIn_b8 fu (nI m) (nI l) (nI b) (nI s) n (if s < i then adv fu R lv m o l b s else -100000) (nI i) S = some (adv fu R lv m o l b s, S') ∧ xfr wrF R S' := by
  have hp := p2F hW hm
  have hm6 := hW.m6 hm
  have hb6 := hW.b16
  intro k
  induction k with
  | zero =>
    intro i n S hi hn hS
    obtain ⟨n, rfl⟩ : ∃ z, n = z + 1 := ⟨n - 1, by omega⟩
    rw [F_X12_aheadIn_b8, if_neg (idx_no hm6 (by decide)), nI_clamp (by omega), setsR hW hS hm, if_pos (nI_le (by omega) (by omega)), if_pos (by omega)]
    exact ⟨S, rfl, hS⟩
  | succ k ih =>
    intro i n S hi hn hS
    obtain ⟨n, rfl⟩ : ∃ z, n = z + 1 := ⟨n - 1, by omega⟩
    have I := ih (i + 1) n
    rw [F_X12_aheadIn_b8, if_neg (idx_no hm6 (by decide)), nI_clamp (by omega), setsR hW hS hm, if_neg (show ¬ nI (2 ^ nF R m) ≤ nI i from nI_ge (by omega) (by omega)), if_neg (nIm1 (by omega))]
    by_cases e : i = s
    · subst e
      obtain ⟨S1, e1, hS1, c1⟩ := fR hfu hW hS hm i
      rw [if_pos rfl, e1, hf]
      simp only [Option.bind_some, F_X12_aheadIn_b59, F_X12_aheadIn_b97, F_X12_aheadIn_b99, add1]
      rw [if_neg (show ¬ b2i true = 0 by decide), if_neg (show ¬ ((1 : Int32) = 0) by decide), now_ok (o := o) (show l < 16 by omega) (show b < 16 by omega) (by rw [hS1 3 l rfl]; exact hrl) (c1 hf l o hl ho hrl) (c1 hf b o hb ho hrb)]
      simp only [Option.bind_some]
      rw [if_neg (Nat.lt_irrefl i), if_pos rfl]
      rw [if_pos (Nat.lt_succ_self i)] at I
      exact I S1 (by omega) (by omega) hS1
    · rw [if_neg (fun z => e ((nI_eq (by omega) (by omega)).mp z))]
      simp only [F_X12_aheadIn_b58, F_X12_aheadIn_b59, F_X12_aheadIn_b99, add1, if_true]
      have : (if s < i + 1 then adv fu R lv m o l b s else -100000) = if s < i then adv fu R lv m o l b s else -100000 := by
        by_cases z : s < i
        · rw [if_pos z, if_pos (by omega)]
        · rw [if_neg z, if_neg (by omega)]
      rw [this] at I
      exact I S (by omega) (by omega) hS
theorem ae_ok {S : xM} (hfu : 70000 ≤ fu) (hW : FW fu lv on mn C R) (hS : xfr wrF R S) (ho : o < on) (hm : m < mn) (hs : someM fu R lv on m = true) {l b : Nat} (hl : l < lv) (hb : b < lv) (hrl : R 3 l = nI o) (hrb : R 3 b = nI o) : ∃ S', F_X12_aheadIn fu (nI m) (nI l) (nI b) (fwl fu R lv on m) S = some (opC fu R lv on m o l b, S') ∧ xfr wrF R S' := by
  obtain ⟨w1, w2, w3⟩ := fw_ok hW hm hs
  have := ae_loop hfu hW ho hm w2 w3 hl hb hrl hrb (2 ^ nF R m) 0 fu S (by omega) (by have := p2F hW hm; omega) hS
  rw [if_neg (by omega)] at this
  rw [w1]
  exact this
def GT (fu : Nat) (R S : xM) (lv on o l m : Nat) : Prop := ∀ b, b < lv → ¬ b = l → R 3 b = nI o → S 24 (m * 16 + b) = ldC fu R lv on m o l b ∧ S 25 (m * 16 + b) = opC fu R lv on m o l b
theorem fr2425 {S S' : xM} (h : xfr (wr_X12_fits ++ [(0, some 0)]) S S') : ∀ j, S' 24 j = S 24 j ∧ S' 25 j = S 25 j := fun j => ⟨h 24 j rfl, h 25 j rfl⟩
theorem lg_in (hfu : 70000 ≤ fu) (hW : FW fu lv on mn C R) (ho : o < on) (hm : m < mn) (hs : someM fu R lv on m = true) {l : Nat} (hl : l < lv) (hrl : R 3 l = nI o) (K : Int32 → xM → Option xM) {S0 : xM} : ∀ k b n S, b + k = lv → k < n → xfr wrF R S → (∀ j, j < m * 16 → S 24 j = S0 24 j ∧ S 25 j = S0 25 j) → (∀ b', b' < b → ¬ b' = l → R 3 b' = nI o → S 24 (m * 16 + b') = ldC fu R lv on m o l b' ∧ S 25 (m * 16 + b') = opC fu R lv on m o l b') → ∃ S', F_X12_layGains_b19 fu (nI l) K n (nI m) (fwl fu R lv on m) (nI b) S = K (nI (m + 1)) S' ∧ xfr wrF R S' ∧ (∀ j, j < m * 16 → S' 24 j = S0 24 j ∧ S' 25 j = S0 25 j) ∧ GT fu R S' lv on o l m := by
  have hb6 := hW.b16
  have hm6 := hW.m6 hm
  intro k
  induction k with
  | zero =>
    intro b n S hb hn hS hP hG
    obtain ⟨n, rfl⟩ : ∃ z, n = z + 1 := ⟨n - 1, by omega⟩
    obtain rfl : b = lv := by omega
    rw [F_X12_layGains_b19, hS 0 1 rfl, hW.cc.2.2.2.1, if_pos (nI_le (Nat.le_refl _) (by omega)), add1]
    exact ⟨S, rfl, hS, hP, hG⟩
  | succ k ih =>
    intro b n S hb hn hS hP hG
    obtain ⟨n, rfl⟩ : ∃ z, n = z + 1 := ⟨n - 1, by omega⟩
    have hbl : b < lv := by omega
    rw [F_X12_layGains_b19, hS 0 1 rfl, hW.cc.2.2.2.1, if_neg (show ¬ nI lv ≤ nI b from nI_ge (by omega) (by omega))]
    simp only [F_X12_layGains_b95, add1]
    by_cases e : b = l
    · rw [if_pos (by rw [e])]
      refine ih (b + 1) n S (by omega) (by omega) hS hP (fun b' hb' hne hr => ?_)
      by_cases e2 : b' = b
      · exact absurd (e2.trans e) hne
      · exact hG b' (by omega) hne hr
    · rw [if_neg (fun z => e ((nI_eq (by omega) (by omega)).mp z)), if_neg (idx_no (show b < 16 by omega) (by decide)), if_neg (idx_no (show l < 16 by omega) (by decide)), nI_clamp (by omega), nI_clamp (by omega), hS 3 b rfl, hS 3 l rfl, hrl]
      by_cases hr : R 3 b = nI o
      · have hidx : m * 16 + b < 96 := by omega
        obtain ⟨S1, e1, hS1, _⟩ := ai_ok hfu hW hS ho hm hl hbl hrl hr
        have f1 : xfr wr_X12_aheadIn S S1 := fr_X12_aheadIn _ _ _ _ _ _ _ e1
        have hS2 : xfr wrF R (xset S1 24 (m * 16 + b) (ldC fu R lv on m o l b)) := hS1.setf (xin_none (by decide) _)
        obtain ⟨S3, e3, hS3⟩ := ae_ok hfu hW hS2 ho hm hs hl hbl hrl hr
        have f3 : xfr wr_X12_aheadIn _ S3 := fr_X12_aheadIn _ _ _ _ _ _ _ e3
        rw [if_pos hr, e1, hs, if_pos rfl]
        simp only [Option.bind_some]
        rw [cnt2, if_neg (idx_no hidx (by decide)), nI_clamp (by omega), e3]
        simp only [Option.bind_some]
        rw [if_neg (idx_no2 hidx (by decide))]
        have k24 : ∀ j, (xset S3 25 (m * 16 + b) (opC fu R lv on m o l b)) 24 j = if j = m * 16 + b then ldC fu R lv on m o l b else S 24 j := fun j => by
          rw [show (xset S3 25 (m * 16 + b) (opC fu R lv on m o l b)) 24 j = S3 24 j from rfl, f3 24 j rfl, ← f1 24 j rfl]
          simp [xset]
        have k25 : ∀ j, (xset S3 25 (m * 16 + b) (opC fu R lv on m o l b)) 25 j = if j = m * 16 + b then opC fu R lv on m o l b else S 25 j := fun j => by
          rw [← f1 25 j rfl, ← show (xset S1 24 (m * 16 + b) (ldC fu R lv on m o l b)) 25 j = S1 25 j from rfl, ← f3 25 j rfl]
          simp [xset]
        refine ih (b + 1) n _ (by omega) (by omega) (hS3.setf (xin_none (by decide) _)) (fun j hj => ?_) (fun b' hb' hne hrb => ?_)
        · rw [k24, k25, if_neg (by omega), if_neg (by omega)]
          exact hP j hj
        · rw [k24, k25]
          by_cases e2 : b' = b
          · subst e2
            rw [if_pos rfl, if_pos rfl]
            exact ⟨rfl, rfl⟩
          · rw [if_neg (by omega), if_neg (by omega)]
            exact hG b' (by omega) hne hrb
      · rw [if_neg hr]
        refine ih (b + 1) n S (by omega) (by omega) hS hP (fun b' hb' hne hrb => ?_)
        by_cases e2 : b' = b
        · exact absurd (e2 ▸ hrb) hr
        · exact hG b' (by omega) hne hrb
theorem lg_ok {S : xM} (hfu : 70000 ≤ fu) (hW : FW fu lv on mn C R) (hS : xfr wrF R S) (ho : o < on) (hB : allB (someM fu R lv on) mn = true) {l : Nat} (hl : l < lv) (hrl : R 3 l = nI o) : ∃ S', F_X12_layGains fu (nI l) S = some S' ∧ xfr wrF R S' ∧ ∀ m, m < mn → GT fu R S' lv on o l m := by
  have hb6 := hW.b16
  have loop : ∀ k m n S, m + k = mn → k < n → xfr wrF R S → (∀ m', m' < m → GT fu R S lv on o l m') → ∃ S', F_X12_layGains_b2 fu (nI l) n (nI m) S = some S' ∧ xfr wrF R S' ∧ ∀ m, m < mn → GT fu R S' lv on o l m := by
    intro k
    induction k with
    | zero =>
      intro m n S hk hn hS hG
      obtain ⟨n, rfl⟩ : ∃ z, n = z + 1 := ⟨n - 1, by omega⟩
      obtain rfl : m = mn := by omega
      rw [F_X12_layGains_b2, hS 0 32 rfl, hW.cc.2.2.2.2.2, if_pos (nI_le (Nat.le_refl _) (by omega))]
      exact ⟨S, rfl, hS, hG⟩
    | succ k ih =>
      intro m n S hk hn hS hG
      obtain ⟨n, rfl⟩ : ∃ z, n = z + 1 := ⟨n - 1, by omega⟩
      have hmn : m < mn := by omega
      obtain ⟨S1, e1, hS1⟩ := fewR hfu hW hmn hS
      have f1 : xfr wr_X12_fewestOf S S1 := fr_X12_fewestOf _ _ _ _ e1
      obtain ⟨S2, e2, hS2, h2, h3⟩ := lg_in (S0 := S1) hfu hW ho hmn (allB_at hB m hmn) hl hrl (F_X12_layGains_b2 fu (nI l) n) lv 0 fu S1 (by omega) (by omega) hS1 (fun _ _ => ⟨rfl, rfl⟩) (fun b' h => absurd h (by omega))
      rw [F_X12_layGains_b2, hS 0 32 rfl, hW.cc.2.2.2.2.2, if_neg (show ¬ nI mn ≤ nI m from nI_ge (by omega) (by omega)), e1]
      simp only [Option.bind_some]
      rw [show F_X12_layGains_b19 fu (nI l) (F_X12_layGains_b2 fu (nI l) n) fu (nI m) (fwl fu R lv on m) 0 S1 = _ from e2]
      refine ih (m + 1) n S2 (by omega) (by omega) hS2 (fun m' hm' => ?_)
      by_cases e : m' = m
      · subst e
        exact h3
      · intro b hb hne hr
        obtain ⟨g1, g2⟩ := h2 (m' * 16 + b) (by omega)
        rw [g1, g2, f1 24 _ rfl, f1 25 _ rfl]
        exact hG m' (by omega) b hb hne hr
  exact loop mn 0 fu S (by omega) (by omega) hS (fun m' h => absurd h (by omega))
end TILL
