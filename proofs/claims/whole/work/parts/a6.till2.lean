/-! till -/
abbrev gnF (fu : Nat) (R : xM) (lv on mn o l s : Nat) : Nat → Int32 := fun b => sumM (fun m => if s.testBit m = true then opC fu R lv on m o l b else ldC fu R lv on m o l b) mn
def cOp (R : xM) (mn s : Nat) : Bool := allB (fun m => !s.testBit m || decide (R 13 m = -1)) mn
section TILL2
variable {R C : xM} {m lv on mn fu o : Nat}
theorem co_le (hW : FW fu lv on mn C R) (s : Nat) : ∀ n, n ≤ mn → coN R s n ≤ 50 * n := by
  obtain ⟨g1, g2, g3, g4, g5, ⟨k, hk, er, q1, q2⟩, g7, e1, e2, e3, e4, e5, e6, b1, b2, b3⟩ := hW
  have : k = mn := (nI_eq (by omega) (by omega)).mp (er.symm.trans e3)
  subst this
  intro n
  induction n with
  | zero => exact fun _ => Nat.le_refl 0
  | succ n ih =>
    intro hn
    obtain ⟨_, _, c, hc, ec⟩ := q1 n (by omega)
    have := ih (by omega)
    rw [coN, ec, nI_clamp (by omega)]
    split <;> omega
theorem co_at (hW : FW fu lv on mn C R) (hm : m < mn) : C 25 m = nI (R 14 m).toNatClampNeg ∧ R 14 m = nI (R 14 m).toNatClampNeg := by
  obtain ⟨g1, g2, g3, g4, g5, ⟨k, hk, er, q1, q2⟩, g7, e1, e2, e3, e4, e5, e6, b1, b2, b3⟩ := hW
  have : k = mn := (nI_eq (by omega) (by omega)).mp (er.symm.trans e3)
  subst this
  obtain ⟨_, c25, c, hc, ec⟩ := q1 m hm
  have e : (R 14 m).toNatClampNeg = c := by rw [ec, nI_clamp (by omega)]
  rw [e]
  exact ⟨c25.trans ec, ec⟩
theorem coC (hfu : 70000 ≤ fu) (hW : FW fu lv on mn C R) (s : Nat) : F_X8_costOf fu (nI s) C = some (nI (coN R s mn), C) := by
  have hb6 := hW.b16
  have loop : ∀ k m n, m + k = mn → k < n → F_X8_costOf_b4 fu (nI s) n (nI (coN R s m)) (nI m) C = some (nI (coN R s mn), C) := by
    intro k
    induction k with
    | zero =>
      intro m n hk hn
      obtain ⟨n, rfl⟩ : ∃ z, n = z + 1 := ⟨n - 1, by omega⟩
      obtain rfl : m = mn := by omega
      rw [F_X8_costOf_b4, hW.cc.2.2.1, if_pos (nI_le (Nat.le_refl _) (by omega))]
    | succ k ih =>
      intro m n hk hn
      obtain ⟨n, rfl⟩ : ∃ z, n = z + 1 := ⟨n - 1, by omega⟩
      have I := ih (m + 1) n (by omega) (by omega)
      rw [coN] at I
      rw [F_X8_costOf_b4, hW.cc.2.2.1, if_neg (show ¬ nI mn ≤ nI m from nI_ge (by omega) (by omega)), has_tb (show m ≤ 30 by omega), tb_nI (by omega), at_ok (show m < 6 by omega) (by decide)]
      simp only [F_X8_costOf_b37, add1]
      cases ht : s.testBit m with
      | false =>
        rw [ht, if_neg (by decide)] at I
        rw [if_neg (show ¬ (false = true) by decide), if_pos rfl]
        exact I
      | true =>
        rw [ht, if_pos rfl] at I
        rw [if_pos rfl, if_neg (show ¬ ((1 : Int32) = 0) by decide), (co_at hW (show m < mn by omega)).1, nI_add]
        exact I
  exact loop mn 0 fu (by omega) (by omega)
theorem coR {S : xM} (hfu : 70000 ≤ fu) (hW : FW fu lv on mn C R) (hS : xfr wrF R S) (s : Nat) : F_X12_costOf fu (nI s) S = some (nI (coN R s mn), S) := by
  have hb6 := hW.b16
  have loop : ∀ k m n, m + k = mn → k < n → F_X12_costOf_b4 fu (nI s) n (nI (coN R s m)) (nI m) S = some (nI (coN R s mn), S) := by
    intro k
    induction k with
    | zero =>
      intro m n hk hn
      obtain ⟨n, rfl⟩ : ∃ z, n = z + 1 := ⟨n - 1, by omega⟩
      obtain rfl : m = mn := by omega
      rw [F_X12_costOf_b4, hS 0 32 rfl, hW.cc.2.2.2.2.2, if_pos (nI_le (Nat.le_refl _) (by omega))]
    | succ k ih =>
      intro m n hk hn
      obtain ⟨n, rfl⟩ : ∃ z, n = z + 1 := ⟨n - 1, by omega⟩
      have I := ih (m + 1) n (by omega) (by omega)
      rw [coN] at I
      rw [F_X12_costOf_b4, hS 0 32 rfl, hW.cc.2.2.2.2.2, if_neg (show ¬ nI mn ≤ nI m from nI_ge (by omega) (by omega)), has12_tb (show m < 32 by omega), tb_nI (by omega)]
      simp only [F_X12_costOf_b31, add1]
      cases ht : s.testBit m with
      | false =>
        rw [ht, if_neg (by decide)] at I
        rw [if_neg (show ¬ (false = true) by decide), if_pos rfl, Int32.add_zero]
        exact I
      | true =>
        rw [ht, if_pos rfl] at I
        rw [if_pos rfl, if_neg (show ¬ ((1 : Int32) = 0) by decide), if_neg (idx_no (show m < 6 by omega) (by decide)), nI_clamp (by omega), hS 14 m rfl, (co_at hW (show m < mn by omega)).2, nI_add]
        exact I
  exact loop mn 0 fu (by omega) (by omega)
theorem caC (hfu : 70000 ≤ fu) (hW : FW fu lv on mn C R) (s : Nat) : F_X8_canOpen fu (nI s) C = some (b2i (cOp R mn s), C) := by
  have hb6 := hW.b16
  have loop : ∀ k m n, m + k = mn → k < n → allB (fun m => !s.testBit m || decide (R 13 m = -1)) m = true → F_X8_canOpen_b2 fu (nI s) n (nI m) C = some (b2i (cOp R mn s), C) := by
    intro k
    induction k with
    | zero =>
      intro m n hk hn hB
      obtain ⟨n, rfl⟩ : ∃ z, n = z + 1 := ⟨n - 1, by omega⟩
      obtain rfl : m = mn := by omega
      rw [F_X8_canOpen_b2, hW.cc.2.2.1, if_pos (nI_le (Nat.le_refl _) (by omega)), show cOp R m s = true from hB]
      rfl
    | succ k ih =>
      intro m n hk hn hB
      obtain ⟨n, rfl⟩ : ∃ z, n = z + 1 := ⟨n - 1, by omega⟩
      have I := ih (m + 1) n (by omega) (by omega)
      rw [allB, hB, Bool.true_and] at I
      rw [F_X8_canOpen_b2, hW.cc.2.2.1, if_neg (show ¬ nI mn ≤ nI m from nI_ge (by omega) (by omega)), has_tb (show m ≤ 30 by omega), tb_nI (by omega), at_ok (show m < 6 by omega) (by decide), hW.op (show m < mn by omega)]
      simp only [F_X8_canOpen_b38, add1]
      cases ht : s.testBit m with
      | false =>
        rw [if_neg (show ¬ (false = true) by decide), if_pos rfl]
        exact I (by rw [ht]; rfl)
      | true =>
        rw [if_pos rfl, if_neg (show ¬ ((1 : Int32) = 0) by decide)]
        by_cases z : R 13 m = -1
        · rw [if_pos z]
          exact I (by rw [decide_eq_true z, Bool.or_true])
        · rw [if_neg z]
          have : (!s.testBit m || decide (R 13 m = -1)) = false := by
            rw [ht, decide_eq_false z]
            rfl
          rw [show cOp R mn s = false from allB_no (f := fun m => !s.testBit m || decide (R 13 m = -1)) this (show m < mn by omega)]
          rfl
  exact loop mn 0 fu (by omega) (by omega) rfl
theorem tb_not (x : Int32) {p : Nat} (hp : p < 32) : tb (x ^^^ (-1)) p = !tb x p := by
  rw [tb_xor]
  have h : ∀ i, i < 32 → tb (-1) i = true := by decide +kernel
  rw [h p hp, Bool.xor_true]
theorem shut_ok {sh : Int32} (hmn : mn ≤ 6) (hsh : ∀ p, p < 32 → tb sh p = decide (p < mn ∧ R 13 p = -1)) {s : Nat} (hs : s < 2 ^ mn) : (nI s &&& (sh ^^^ (-1)) = 0) ↔ cOp R mn s = true := by
  constructor
  · intro h
    have hp : ∀ p, p < mn → (!s.testBit p || decide (R 13 p = -1)) = true := by
      intro p hp
      have h1 : tb (nI s &&& (sh ^^^ (-1))) p = false := by rw [h, tb_0]
      rw [tb_and, tb_not _ (by omega), tb_nI (by omega), hsh p (by omega)] at h1
      by_cases z : R 13 p = -1
      · rw [decide_eq_true z, Bool.or_true]
      · rw [decide_eq_false (fun y => z y.2)] at h1
        simp at h1
        rw [h1]
        rfl
    have : ∀ n, n ≤ mn → allB (fun m => !s.testBit m || decide (R 13 m = -1)) n = true := by
      intro n
      induction n with
      | zero => exact fun _ => rfl
      | succ n ih =>
        intro hn
        rw [allB, ih (by omega), hp n (by omega)]
        rfl
    exact this mn (Nat.le_refl _)
  · intro h
    apply tb_ext
    intro p hp
    rw [tb_0, tb_and, tb_not _ hp, tb_nI hp, hsh p hp]
    by_cases hpm : p < mn
    · have := allB_at (f := fun m => !s.testBit m || decide (R 13 m = -1)) h p hpm
      by_cases z : R 13 p = -1
      · rw [decide_eq_true ⟨hpm, z⟩]
        simp
      · rw [decide_eq_false z, Bool.or_false] at this
        simp at this
        rw [this]
        rfl
    · rw [Nat.testBit_lt_two_pow (Nat.lt_of_lt_of_le hs (Nat.pow_le_pow_right (by decide) (by omega))), Bool.false_and]
/-- the reference: whether a LEVER wins with some OPENED -/
theorem ww_ok {S : xM} (hfu : 70000 ≤ fu) (hW : FW fu lv on mn C R) (hS : xfr wrF R S) {l : Nat} (hl : l < lv) (hrl : R 3 l = nI o) (hG : ∀ m, m < mn → GT fu R S lv on o l m) (s : Nat) : F_X12_winsWith fu (nI l) (nI s) S = some (b2i (laB R lv o l (gnF fu R lv on mn o l s)), S) := by
  have hb6 := hW.b16
  have inner : ∀ (K : Int32 → xM → Option (Int32 × xM)) (b : Nat), b < lv → ¬ b = l → R 3 b = nI o → ∀ k m n, m + k = mn → k < n → F_X12_winsWith_b39 fu (nI l) (nI s) K n (nI b) (sumM (fun m => if s.testBit m = true then opC fu R lv on m o l b else ldC fu R lv on m o l b) m) (nI m) S = if 1 ≤ gnF fu R lv on mn o l s b then K (nI (b + 1)) S else some (0, S) := by
    intro K b hb hne hrb k
    induction k with
    | zero =>
      intro m n hk hn
      obtain ⟨n, rfl⟩ : ∃ z, n = z + 1 := ⟨n - 1, by omega⟩
      obtain rfl : m = mn := by omega
      rw [F_X12_winsWith_b39, hS 0 32 rfl, hW.cc.2.2.2.2.2, if_pos (nI_le (Nat.le_refl _) (by omega))]
      unfold F_X12_winsWith_b103
      rw [add1]
    | succ k ih =>
      intro m n hk hn
      obtain ⟨n, rfl⟩ : ∃ z, n = z + 1 := ⟨n - 1, by omega⟩
      have I := ih (m + 1) n (by omega) (by omega)
      rw [sumM] at I
      obtain ⟨t1, t2⟩ := hG m (by omega) b hb hne hrb
      have hidx : m * 16 + b < 96 := by omega
      rw [F_X12_winsWith_b39, hS 0 32 rfl, hW.cc.2.2.2.2.2, if_neg (show ¬ nI mn ≤ nI m from nI_ge (by omega) (by omega)), has12_tb (show m < 32 by omega), tb_nI (by omega), cnt2, if_neg (idx_no hidx (by decide)), if_neg (idx_no hidx (by decide)), nI_clamp (by omega), t1, t2]
      simp only [F_X12_winsWith_b86, add1]
      cases ht : s.testBit m with
      | false =>
        rw [ht, if_neg (by decide)] at I
        rw [if_neg (show ¬ (false = true) by decide), if_pos rfl]
        exact I
      | true =>
        rw [ht, if_pos rfl] at I
        rw [if_pos rfl, if_neg (show ¬ ((1 : Int32) = 0) by decide)]
        exact I
  have loop : ∀ k b n, b + k = lv → k < n → allB (fun b => decide (b = l) || !decide (R 3 b = nI o) || decide (1 ≤ gnF fu R lv on mn o l s b)) b = true → F_X12_winsWith_b2 fu (nI l) (nI s) n (nI b) S = some (b2i (laB R lv o l (gnF fu R lv on mn o l s)), S) := by
    intro k
    induction k with
    | zero =>
      intro b n hb hn hB
      obtain ⟨n, rfl⟩ : ∃ z, n = z + 1 := ⟨n - 1, by omega⟩
      have e : b = lv := by omega
      rw [e] at hB
      rw [e, F_X12_winsWith_b2, hS 0 1 rfl, hW.cc.2.2.2.1, if_pos (nI_le (Nat.le_refl _) (by omega)), show laB R lv o l (gnF fu R lv on mn o l s) = true from hB]
      rfl
    | succ k ih =>
      intro b n hb hn hB
      obtain ⟨n, rfl⟩ : ∃ z, n = z + 1 := ⟨n - 1, by omega⟩
      have I := ih (b + 1) n (by omega) (by omega)
      rw [allB, hB, Bool.true_and] at I
      rw [F_X12_winsWith_b2, hS 0 1 rfl, hW.cc.2.2.2.1, if_neg (show ¬ nI lv ≤ nI b from nI_ge (by omega) (by omega))]
      simp only [F_X12_winsWith_b103, add1]
      by_cases e : b = l
      · rw [if_pos (by rw [e])]
        exact I (by rw [decide_eq_true e]; rfl)
      · rw [if_neg (fun z => e ((nI_eq (by omega) (by omega)).mp z)), if_neg (idx_no (show b < 16 by omega) (by decide)), if_neg (idx_no (show l < 16 by omega) (by decide)), nI_clamp (by omega), nI_clamp (by omega), hS 3 b rfl, hS 3 l rfl, hrl]
        by_cases hr : R 3 b = nI o
        · rw [if_pos hr, show F_X12_winsWith_b39 fu (nI l) (nI s) (F_X12_winsWith_b2 fu (nI l) (nI s) n) fu (nI b) 0 0 S = _ from inner (F_X12_winsWith_b2 fu (nI l) (nI s) n) b (by omega) e hr mn 0 fu (by omega) (by omega)]
          by_cases z : 1 ≤ gnF fu R lv on mn o l s b
          · rw [if_pos z]
            exact I (by rw [decide_eq_true z, Bool.or_true])
          · rw [if_neg z]
            have : (decide (b = l) || !decide (R 3 b = nI o) || decide (1 ≤ gnF fu R lv on mn o l s b)) = false := by
              rw [decide_eq_false e, decide_eq_true hr, decide_eq_false z]
              rfl
            rw [show laB R lv o l (gnF fu R lv on mn o l s) = false from allB_no (f := fun b => decide (b = l) || !decide (R 3 b = nI o) || decide (1 ≤ gnF fu R lv on mn o l s b)) this (show b < lv by omega)]
            rfl
        · rw [if_neg hr]
          exact I (by rw [decide_eq_false hr]; simp)
  exact loop lv 0 fu (by omega) (by omega) rfl
theorem tlr_loop {S : xM} (hW : FW fu lv on mn C R) (hS : xfr wrF R S) (x1 x2 : Int32) : ∀ k m n (sh : Int32), m + k = mn → k < n → (∀ p, p < 32 → tb sh p = decide (p < m ∧ R 13 p = -1)) → ∃ sh', F_X12_till_b41 fu x1 x2 n sh (nI m) S = F_X12_till_b84 fu x1 x2 fu sh' (-1) 0 S ∧ ∀ p, p < 32 → tb sh' p = decide (p < mn ∧ R 13 p = -1) := by
  have hb6 := hW.b16
  intro k
  induction k with
  | zero =>
    intro m n sh hk hn hsh
    obtain ⟨n, rfl⟩ : ∃ z, n = z + 1 := ⟨n - 1, by omega⟩
    obtain rfl : m = mn := by omega
    rw [F_X12_till_b41, hS 0 32 rfl, hW.cc.2.2.2.2.2, if_pos (nI_le (Nat.le_refl _) (by omega))]
    exact ⟨sh, rfl, hsh⟩
  | succ k ih =>
    intro m n sh hk hn hsh
    obtain ⟨n, rfl⟩ : ∃ z, n = z + 1 := ⟨n - 1, by omega⟩
    rw [F_X12_till_b41, hS 0 32 rfl, hW.cc.2.2.2.2.2, if_neg (show ¬ nI mn ≤ nI m from nI_ge (by omega) (by omega)), if_neg (idx_no (show m < 6 by omega) (by decide)), nI_clamp (by omega), hS 13 m rfl]
    simp only [F_X12_till_b70, add1]
    by_cases z : R 13 m = -1
    · rw [if_pos z]
      refine ih (m + 1) n _ (by omega) (by omega) (fun p hp => ?_)
      rw [tb_or1 _ (by omega) hp, hsh p hp]
      by_cases e : p = m
      · subst e
        rw [decide_eq_true (show p = p from rfl), Bool.or_true, decide_eq_true ⟨Nat.lt_succ_self p, z⟩]
      · rw [decide_eq_false e, Bool.or_false, decide_eq_decide]
        constructor
        · exact fun y => ⟨by omega, y.2⟩
        · exact fun y => ⟨by omega, y.2⟩
    · rw [if_neg z, or0]
      refine ih (m + 1) n _ (by omega) (by omega) (fun p hp => ?_)
      rw [hsh p hp, decide_eq_decide]
      constructor
      · exact fun y => ⟨by omega, y.2⟩
      · intro y
        refine ⟨?_, y.2⟩
        have : ¬ p = m := fun e => z (e ▸ y.2)
        omega
theorem lt0_sub {a b : Nat} (ha : a < 2 ^ 30) (hb : b < 2 ^ 30) : (nI a - nI b < 0) ↔ a < b := by
  rw [Int32.lt_iff_toInt_lt, pk_sub_toInt ha hb]
  show _ < (0 : Int) ↔ _
  omega
theorem gt0_sub {a b : Nat} (ha : a < 2 ^ 30) (hb : b < 2 ^ 30) : (0 < nI a - nI b) ↔ b < a := by
  rw [Int32.lt_iff_toInt_lt, pk_sub_toInt ha hb]
  show (0 : Int) < _ ↔ _
  omega
theorem eq0_sub {a b : Nat} (ha : a < 2 ^ 30) (hb : b < 2 ^ 30) : (nI a - nI b = 0) ↔ a = b := by
  rw [← Int32.toInt_inj, pk_sub_toInt ha hb]
  show _ = (0 : Int) ↔ _
  omega
theorem op_till (hfu : 70000 ≤ fu) (x1 x2 : Int32) (hW : FW fu lv on mn C R) : ∃ v C' R', F_X11_till fu x1 x2 C = some (v, C') ∧ F_X12_till fu x1 x2 R = some (v, R') := by
  have hb6 := hW.b16
  unfold F_X11_till F_X12_till
  rcases hW.of hfu x1 with ⟨l, o, hl, ho, rfl, hrl, f1, f2⟩ | ⟨f1, f2⟩
  rotate_left
  · rw [f1, f2]
    exact ⟨-1, _, _, rfl, rfl⟩
  rw [f1, f2]
  simp only [Option.bind_some]
  rw [if_neg (nIm1 (by omega)), if_neg (show ¬ ((1 : Int32) = 0) by decide), isIn_eq (N := C)]
  by_cases h2 : P_X1_within x2 0 1 C = 0
  · rw [if_pos h2, if_pos h2]
    exact ⟨-1, _, _, rfl, rfl⟩
  rw [if_neg h2, if_neg h2]
  unfold F_X8_cheapestOpening
  rw [f1]
  simp only [Option.bind_some]
  have hA : ∀ a (M : xM), a < lv → tb (P_X1_bit (nI l) M) a = true → R 3 a = nI o := fun a M ha ht => by
    rw [bit1 (by omega) (by omega)] at ht
    rw [of_decide_eq_true ht]
    exact hrl
  obtain ⟨C1, e1, hW1, ht⟩ := weigh_ok hfu hW ho (fun a ha hx => hA a C ha hx)
  obtain ⟨R1, e2, hR1⟩ := af_ok hfu hW (x00F R)
  rw [e1, e2]
  simp only [Option.bind_some]
  cases hB : allB (someM fu R lv on) mn with
  | false =>
    rw [if_pos (show b2i false = 0 from rfl), if_pos (show b2i false = 0 from rfl)]
    simp only [Option.bind_some, if_true, F_X11_till_b41]
    exact ⟨-1, C1, R1, rfl, rfl⟩
  | true =>
    rw [if_neg (show ¬ b2i true = 0 by decide), if_neg (show ¬ b2i true = 0 by decide)]
    obtain ⟨C2, e3, hW2, h39, ht2⟩ := wo_ok hfu hW1 ho (fun a ha hx => hA a C1 ha hx) hB
    obtain ⟨R2, e4, hR2, hG⟩ := lg_ok hfu hW hR1 ho hB hl hrl
    obtain ⟨sh, e5, hsh⟩ := tlr_loop hW hR2 (nI l) x2 mn 0 fu 0 (by omega) (by omega) (fun p hp => by rw [tb_0, decide_eq_false (fun z => by omega)])
    rw [e3, e4]
    simp only [Option.bind_some]
    rw [show F_X12_till_b41 fu (nI l) x2 fu 0 0 R2 = _ from e5]
    have hbitl : tb (P_X1_bit (nI l) C) l = true := by
      rw [bit1 (by omega) (by omega)]
      exact decide_eq_true rfl
    have hla : ∀ s, F_X8_leadsAll fu (nI l) (nI o) (nI s) C2 = some (b2i (laB R lv o l (gnF fu R lv on mn o l s)), C2) := fun s =>
      la_ok (R := R) hfu hb6.1 hb6.2.2 (show o < 6 by omega) hW2.cc.1 hW2.cc.2.2.1 (hW2.h11 ho) hl (nI s) (gnF fu R lv on mn o l s) (fun b hb hrb hne => ld_loop (fu := fu) (M := C2) hW2.cc.2.2.1 hb6.2.2 (show l < 16 by omega) (show b < 16 by omega) (nI s) (fun m => if s.testBit m = true then opC fu R lv on m o l b else ldC fu R lv on m o l b) (fun m hm => by
        rw [tb_nI (by omega)]
        by_cases z : s.testBit m = true
        · rw [if_pos z, if_pos z]
          exact ht2 m hm l b hl hb hbitl hrb
        · rw [if_neg z, if_neg z, h39]
          exact ht hB m hm l b hl hb hbitl hrb) mn 0 fu (by omega) (by omega))
    have hww := ww_ok hfu hW hR2 hl hrl hG
    have hp2 : 2 ^ mn ≤ 64 := Nat.pow_le_pow_right (n := 2) (by decide) hb6.2.2
    have e32 : R2 0 32 = nI mn := (hR2 0 32 rfl).trans hW.cc.2.2.2.2.2
    have loop : ∀ k i n1 n2 (bs : Int32), i + k = 2 ^ mn → k < n1 → k < n2 → (bs = -1 ∨ ∃ t, t < 2 ^ mn ∧ bs = nI t) → ∃ bs', (bs' = -1 ∨ ∃ t, t < 2 ^ mn ∧ bs' = nI t) ∧ F_X8_cheapestOpening_b37 fu (nI l) n1 (nI o) bs (nI i) C2 = some (bs', C2) ∧ F_X12_till_b84 fu (nI l) x2 n2 sh bs (nI i) R2 = if bs' = -1 then some (-1, R2) else if x2 = 0 then some (bs', R2) else (F_X12_costOf fu bs' R2).bind fun q1 => some (q1.1, q1.2) := by
      intro k
      induction k with
      | zero =>
        intro i n1 n2 bs hi h1 h2 hbs
        obtain ⟨n1, rfl⟩ : ∃ z, n1 = z + 1 := ⟨n1 - 1, by omega⟩
        obtain ⟨n2, rfl⟩ : ∃ z, n2 = z + 1 := ⟨n2 - 1, by omega⟩
        refine ⟨bs, hbs, ?_, ?_⟩
        · rw [F_X8_cheapestOpening_b37, hW2.cc.2.2.1, all_eq (by omega), if_pos ((dec_ge (by omega) (by omega)).mpr (by omega))]
        · rw [F_X12_till_b84, e32, p2 (by omega), if_pos (nI_le (by omega) (by omega))]
      | succ k ih =>
        intro i n1 n2 bs hi h1 h2 hbs
        obtain ⟨n1, rfl⟩ : ∃ z, n1 = z + 1 := ⟨n1 - 1, by omega⟩
        obtain ⟨n2, rfl⟩ : ∃ z, n2 = z + 1 := ⟨n2 - 1, by omega⟩
        have I := fun bs h => ih (i + 1) n1 n2 bs (by omega) (by omega) (by omega) h
        have hil : i < 2 ^ mn := by omega
        have hco : ∀ s, coN R s mn ≤ 300 := fun s => by
          have := co_le hW s mn (Nat.le_refl _)
          omega
        rw [F_X8_cheapestOpening_b37, hW2.cc.2.2.1, all_eq (by omega), if_neg (fun z => by have := (dec_ge (n := 2 ^ mn) (j := i) (by omega) (by omega)).mp z; omega), caC hfu hW2, F_X12_till_b84, e32, p2 (by omega), if_neg (show ¬ nI (2 ^ mn) ≤ nI i from nI_ge (by omega) (by omega)), hww]
        simp only [Option.bind_some, F_X8_cheapestOpening_b76, F_X8_cheapestOpening_b90, F_X12_till_b140, F_X12_till_b162, F_X12_till_b166, hla, add1]
        cases hc : cOp R mn i with
        | false =>
          rw [if_pos (show b2i false = 0 from rfl), if_neg (fun z => by rw [(shut_ok hb6.2.2 hsh hil).mp z] at hc; exact absurd hc (by decide))]
          exact I bs hbs
        | true =>
          rw [if_neg (show ¬ b2i true = 0 by decide), if_pos ((shut_ok hb6.2.2 hsh hil).mpr hc)]
          rcases hbs with rfl | ⟨t, htt, rfl⟩
          · rw [if_pos rfl]
            by_cases z : b2i (laB R lv o l (gnF fu R lv on mn o l i)) = 0
            · rw [if_pos z, if_pos z]
              exact I (-1) (Or.inl rfl)
            · rw [if_neg z, if_neg z, if_pos rfl, if_pos (show (-1 : Int32) < 0 by decide)]
              exact I (nI i) (Or.inr ⟨i, hil, rfl⟩)
          · rw [if_neg (nIm1 (by omega)), if_neg (nIm1 (by omega)), coR hfu hW hR2]
            unfold F_X8_isCheaper F_X8_isCheaper_b28
            rw [coC hfu hW2]
            simp only [Option.bind_some]
            rw [coC hfu hW2, coR hfu hW hR2]
            simp only [Option.bind_some]
            rw [bef_eq (N := fun _ _ => 0), show P_X12_isBefore (nI i) (nI t) R2 = P_X12_isBefore (nI i) (nI t) (fun _ _ => 0) from rfl]
            have hi3 := hco i
            have ht3 := hco t
            by_cases z1 : coN R i mn < coN R t mn
            · rw [if_pos ((gt0_sub (by omega) (by omega)).mpr z1), if_pos ((lt0_sub (by omega) (by omega)).mpr z1)]
              simp only [Option.bind_some]
              rw [if_neg (show ¬ ((1 : Int32) = 0) by decide), hla]
              simp only [Option.bind_some]
              by_cases z : b2i (laB R lv o l (gnF fu R lv on mn o l i)) = 0
              · rw [if_pos z, if_pos z]
                exact I (nI t) (Or.inr ⟨t, htt, rfl⟩)
              · rw [if_neg z, if_neg z]
                exact I (nI i) (Or.inr ⟨i, hil, rfl⟩)
            · rw [if_neg (fun y => z1 ((gt0_sub (by omega) (by omega)).mp y)), if_neg (fun y => z1 ((lt0_sub (by omega) (by omega)).mp y))]
              by_cases z2 : coN R i mn = coN R t mn
              · rw [if_pos ((eq0_sub (by omega) (by omega)).mpr z2.symm), if_pos ((eq0_sub (by omega) (by omega)).mpr z2)]
                by_cases z3 : P_X12_isBefore (nI i) (nI t) (fun _ _ => 0) = 0
                · rw [if_pos z3, if_pos z3]
                  simp only [Option.bind_some, if_true]
                  have J := I (nI t) (Or.inr ⟨t, htt, rfl⟩)
                  by_cases z : b2i (laB R lv o l (gnF fu R lv on mn o l i)) = 0
                  · rw [if_pos z]
                    exact J
                  · rw [if_neg z]
                    exact J
                · rw [if_neg z3, if_neg z3]
                  simp only [Option.bind_some]
                  rw [if_neg (show ¬ ((1 : Int32) = 0) by decide), hla]
                  simp only [Option.bind_some]
                  by_cases z : b2i (laB R lv o l (gnF fu R lv on mn o l i)) = 0
                  · rw [if_pos z, if_pos z]
                    exact I (nI t) (Or.inr ⟨t, htt, rfl⟩)
                  · rw [if_neg z, if_neg z]
                    exact I (nI i) (Or.inr ⟨i, hil, rfl⟩)
              · rw [if_neg (fun y => z2 ((eq0_sub (by omega) (by omega)).mp y).symm), if_neg (fun y => z2 ((eq0_sub (by omega) (by omega)).mp y))]
                simp only [Option.bind_some, if_true]
                have J := I (nI t) (Or.inr ⟨t, htt, rfl⟩)
                by_cases z : b2i (laB R lv o l (gnF fu R lv on mn o l i)) = 0
                · rw [if_pos z]
                  exact J
                · rw [if_neg z]
                  exact J
    obtain ⟨bs, hbs, k1, k2⟩ := loop (2 ^ mn) 0 fu fu (-1) (by omega) (by omega) (by omega) (Or.inl rfl)
    rw [show F_X8_cheapestOpening_b37 fu (nI l) fu (nI o) (-1) 0 C2 = _ from k1, show F_X12_till_b84 fu (nI l) x2 fu sh (-1) 0 R2 = _ from k2]
    simp only [Option.bind_some, F_X11_till_b41]
    by_cases z : bs = -1
    · rw [if_pos z, if_pos z, z]
      exact ⟨-1, C2, R2, rfl, rfl⟩
    · rw [if_neg z, if_neg z]
      by_cases z2 : x2 = 0
      · rw [if_pos z2, if_pos z2]
        exact ⟨bs, C2, R2, rfl, rfl⟩
      · obtain ⟨t, htt, rfl⟩ := hbs.resolve_left z
        rw [if_neg z2, if_neg z2, coC hfu hW2, coR hfu hW hR2]
        exact ⟨_, C2, R2, rfl, rfl⟩
end TILL2
