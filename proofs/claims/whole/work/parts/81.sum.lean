/-! SUMS on both sides: the class reads atoms in one row, the reference terms of atoms -/
def clp (y : Int64) : Int32 := (jmaxl (-1000000 : Int64) (jminl (1000000 : Int64) y)).toInt32
def rk (x0 x1 x2 : Int32) : Int32 := if x1 = 43 then clp (x0.toInt64 + x2.toInt64) else if x1 = 45 then clp (x0.toInt64 - x2.toInt64) else if x1 = 42 then clp (x0.toInt64 * x2.toInt64) else if x2 = 0 then clp 0 else clp (x0.toInt64 / x2.toInt64)
def bnd (v : Int32) : Prop := -1000000 ≤ v.toInt ∧ v.toInt ≤ 1000000
abbrev bk (c : Nat) : Prop := c = 115 ∨ c = 120 ∨ c = 102 ∨ c = 119 ∨ c = 112
def bidx (c : Nat) : Nat := if c = 102 then 2 else if c = 112 then 4 else if c = 115 then 0 else if c = 119 then 3 else 1
/-- the books that were laid are the same -/
def EB (C R : xM) : Prop := ∀ c, bk c → C 21 (bidx c) = R 10 c ∧ bnd (C 21 (bidx c))
def VS (C R : xM) (v w : Int32) : Prop := EB C R → v = w ∧ bnd v
def WT (_ : Int32) : Prop := True
section SUMS
variable {C R : xM} {N : Nat} {t : Nat → Nat} {r b n1 : Nat}
theorem clp_toInt (y : Int64) : (clp y).toInt = if y.toInt < -1000000 then -1000000 else if 1000000 < y.toInt then 1000000 else y.toInt := by
  have c1 : (1000000 : Int64).toInt = 1000000 := by decide
  have c2 : (-1000000 : Int64).toInt = -1000000 := by decide
  have e1 : (jminl 1000000 y).toInt = if y.toInt < 1000000 then y.toInt else 1000000 := by
    unfold jminl
    by_cases h : y < 1000000
    · rw [if_pos h, if_pos (by rw [Int64.lt_iff_toInt_lt, c1] at h; exact h)]
    · rw [if_neg h, if_neg (by rw [Int64.lt_iff_toInt_lt, c1] at h; exact h), c1]
  have e2 : (jmaxl (-1000000) (jminl 1000000 y)).toInt = if (jminl 1000000 y).toInt < -1000000 then -1000000 else (jminl 1000000 y).toInt := by
    unfold jmaxl
    by_cases h : jminl 1000000 y < -1000000
    · rw [if_pos h, if_pos (by rw [Int64.lt_iff_toInt_lt, c2] at h; exact h), c2]
    · rw [if_neg h, if_neg (by rw [Int64.lt_iff_toInt_lt, c2] at h; exact h)]
  unfold clp
  rw [Int64.toInt_toInt32, e2, e1]
  rw [Int.bmod_eq_of_le]
  · (repeat' split) <;> omega
  · split <;> split <;> omega
  · split <;> split <;> omega
theorem clp_bnd (y : Int64) : bnd (clp y) := by
  unfold bnd
  rw [clp_toInt]
  constructor <;> split <;> (try split) <;> omega
theorem rk_bnd (x0 x1 x2 : Int32) : bnd (rk x0 x1 x2) := by
  unfold rk
  split
  · exact clp_bnd _
  · split
    · exact clp_bnd _
    · split
      · exact clp_bnd _
      · split <;> exact clp_bnd _
theorem rk0 {v : Int32} (h : bnd v) : rk 0 43 v = v := by
  unfold rk
  rw [if_pos rfl, ← Int32.toInt_inj, clp_toInt]
  have e : ((0 : Int32).toInt64 + v.toInt64).toInt = v.toInt := by
    rw [show (0 : Int32).toInt64 = 0 by decide, Int64.zero_add, Int32.toInt_toInt64]
  rw [e, if_neg (by have := h.1; omega), if_neg (by have := h.2; omega)]
theorem i64z (x : Int32) : x.toInt64 = 0 ↔ x = 0 := by
  constructor
  · intro h
    rw [← Int32.toInt_inj, ← Int32.toInt_toInt64, h]
    decide
  · rintro rfl
    decide
theorem reck_ok (x0 x1 x2 : Int32) (M : xM) : F_X3_reckoned x0 x1 x2 M = some (rk x0 x1 x2, M) := by
  unfold F_X3_reckoned F_X3_reckoned_b57 F_X3_reckoned_b58 rk
  by_cases h1 : x1 = 43
  · rw [if_pos h1, if_pos h1]
    rfl
  rw [if_neg h1, if_neg h1]
  by_cases h2 : x1 = 45
  · rw [if_pos h2, if_pos h2]
    rfl
  rw [if_neg h2, if_neg h2]
  by_cases h3 : x1 = 42
  · rw [if_pos h3, if_pos h3]
    rfl
  rw [if_neg h3, if_neg h3]
  by_cases h4 : x2 = 0
  · rw [if_pos h4, if_pos h4]
    rfl
  rw [if_neg h4, if_neg h4, if_neg (fun z => h4 ((i64z x2).mp z))]
  rfl
-- digits
theorem dg_step {a x : Nat} (hx : dig x) : nI a * 10 + nI x - 48 = nI (a * 10 + x - 48) ∧ 10 * nI a + nI x - 48 = nI (a * 10 + x - 48) := by
  have e1 : nI a * 10 = nI (a * 10) := by
    rw [show (10 : Int32) = nI 10 from rfl, pk_mul]
  have e2 : 10 * nI a = nI (a * 10) := by
    rw [show (10 : Int32) = nI 10 from rfl, pk_mul, Nat.mul_comm]
  rw [e1, e2, nI_add]
  exact ⟨pk_sub (a := a * 10 + x) (b := 48) (by have := hx.1; omega), pk_sub (a := a * 10 + x) (b := 48) (by have := hx.1; omega)⟩
theorem nI_bnd {a : Nat} (h : a ≤ 1000000) : bnd (nI a) := by
  unfold bnd
  rw [nI_toInt (by omega)]
  omega
theorem dg_loop (hC : CT C N t) (hR : RX' R N t r b n1) {fu : Nat} (g1 g2 : Int32 → xM → Option (Int32 × xM)) (h1 h2 h3 : xM → Option (Int32 × xM)) {d : Nat} : ∀ (k c p n m a : Nat), c + k = 4 → k < n → k < m → p ≤ N → a < 10 ^ c →
    Out C R N t WT (VS C R) d p (F_X3_digits_b4 fu n (nI a) (nI c) (cst C p (-1))) (F_X12_atom_b90 fu h1 h2 h3 m (nI a) (nI c) (rst R p (-1) d)) := by
  have hN := hC.1
  intro k
  induction k with
  | zero =>
    intro c p n m a hc hn hm hp ha
    obtain ⟨n, rfl⟩ : ∃ z, n = z + 1 := ⟨n - 1, by omega⟩
    obtain ⟨m, rfl⟩ : ∃ z, m = z + 1 := ⟨m - 1, by omega⟩
    obtain rfl : c = 4 := by omega
    rw [F_X3_digits_b4, if_pos (show (4 : Int32) ≤ nI 4 by decide), F_X12_atom_b90, isDigR hR hp]
    simp only [Option.bind_some]
    by_cases h : p < N ∧ dig (t p)
    · rw [if_pos h, if_neg (show ¬ ((1 : Int32) = 0) by decide), rst_21, if_pos rfl, if_pos (show nI 4 = 4 by decide), fails_ok]
      exact Or.inr ⟨nI a, _, 0, p, d, p, hp, rfl, Or.inr ⟨rfl, h.1, h.2⟩, rfl, trivial, trivial⟩
    · rw [if_neg h, if_pos rfl]
      exact Or.inl ⟨nI a, nI a, p, Nat.le_refl p, hp, rfl, rfl, trivial, trivial, fun _ => ⟨rfl, nI_bnd (by omega)⟩⟩
  | succ k ih =>
    intro c p n m a hc hn hm hp ha
    obtain ⟨n, rfl⟩ : ∃ z, n = z + 1 := ⟨n - 1, by omega⟩
    obtain ⟨m, rfl⟩ : ∃ z, m = z + 1 := ⟨m - 1, by omega⟩
    have hc10 : (10 : Nat) ^ c ≤ 1000 := by
      have : (10 : Nat) ^ c ≤ 10 ^ 3 := Nat.pow_le_pow_right (by decide) (by omega)
      exact this
    have hc11 : (10 : Nat) ^ (c + 1) = 10 ^ c * 10 := Nat.pow_succ 10 c
    rw [F_X3_digits_b4, if_neg (show ¬ (4 : Int32) ≤ nI c from nI_ge (b := 4) (by omega) (by decide)), F_X12_atom_b90, isDigR hR hp, cst_43, cst_44, hC.2.1, F_X3_digits_b35, F_X3_digits_b35]
    simp only [Option.bind_some]
    by_cases hpN : p < N
    · obtain ⟨q1, q2⟩ := hC.2.2 p hpN
      obtain ⟨hN', ht, hr0, hr1, hx, hb, hn1, h14, h18, h19, hT⟩ := hR
      rw [if_neg (show ¬ nI N ≤ nI p from nI_ge hpN (by omega)), at_ok (show p < 120 by omega) (by decide), cst_o (by decide), q2, isDigC q1]
      by_cases h : dig (t p)
      · have hR' : RX' R N t r b n1 := ⟨hN', ht, hr0, hr1, hx, hb, hn1, h14, h18, h19, hT⟩
        rw [if_pos h, if_pos (show p < N ∧ dig (t p) from ⟨hpN, h⟩), if_neg (show ¬ ((1 : Int32) = 0) by decide), if_neg (show ¬ ((1 : Int32) = 0) by decide), rst_21, if_pos rfl, if_neg (show ¬ nI c = 4 from fun z => by have := (nI_eq (a := c) (b := 4) (by omega) (by decide)).mp z; omega), rst_20, rst_14, rst_18, h14, h18, nI_clamp (by omega), hx, nI_add, nI_clamp (by omega)]
        simp only [Option.bind_some]
        rw [if_neg (idx_no2 (show b + p < n1 by omega) (by omega)), rst_o hr0, hT p hpN, (sbdig _ q1).2 h, (dg_step h).1, (dg_step h).2, add1, add1, cst_44, add1, cst_s4, rst_s20]
        rcases ih (c + 1) (p + 1) n m (a * 10 + t p - 48) (by omega) (by omega) (by omega) (by omega) (by have := h.2; omega) with ⟨v, w, q, z1, z2⟩ | z
        · exact Or.inl ⟨v, w, q, by omega, z2⟩
        · exact Or.inr z
      · rw [if_neg h, if_neg (show ¬ (p < N ∧ dig (t p)) from fun z => h z.2), if_pos rfl, if_pos rfl]
        exact Or.inl ⟨nI a, nI a, p, Nat.le_refl p, hp, rfl, rfl, trivial, trivial, fun _ => ⟨rfl, nI_bnd (by omega)⟩⟩
    · rw [if_pos (show nI N ≤ nI p from nI_le (by omega) (by omega)), isDigC1, if_neg (show ¬ (p < N ∧ dig (t p)) from fun z => hpN z.1), if_pos rfl, if_pos rfl]
      exact Or.inl ⟨nI a, nI a, p, Nat.le_refl p, hp, rfl, rfl, trivial, trivial, fun _ => ⟨rfl, nI_bnd (by omega)⟩⟩
theorem among_tab : ∀ c, c < 256 → xam (xtx 1001) (nI c) = if bk c then 1 else 0 := by decide +kernel
theorem among_m1 : xam (xtx 1001) (-1) = 0 := by decide
theorem book_tab : ∀ c, c < 256 → (if nI c = 102 then (2 : Int32) else if nI c = 112 then 4 else if nI c = 115 then 0 else if nI c = 119 then 3 else if nI c = 120 then 1 else -1) = if bk c then nI (bidx c) else -1 := by decide +kernel
theorem bookOf_tab {c : Nat} (h : c < 256) {M : xM} : P_X3_bookOf (nI c) M = if bk c then nI (bidx c) else -1 := book_tab c h
theorem bidx_lt (c : Nat) : bidx c < 5 := by
  unfold bidx
  split
  · decide
  · split
    · decide
    · split
      · decide
      · split <;> decide
theorem chr_cases (hC : CT C N t) (q : Nat) : (chr N t q = -1 ∧ ¬ q < N) ∨ (q < N ∧ t q < 256 ∧ chr N t q = nI (t q)) := by
  by_cases h : q < N
  · exact Or.inr ⟨h, (hC.2.2 q h).1, chr_in h⟩
  · exact Or.inl ⟨chr_out h, h⟩
theorem Out.le {W : Int32 → Prop} {V : Int32 → Int32 → Prop} {d p p' : Nat} {x y : Option (Int32 × xM)} (h : Out C R N t W V d p x y) (hp : p' ≤ p) : Out C R N t W V d p' x y := by
  rcases h with ⟨v, w, q, z1, z2⟩ | z
  · exact Or.inl ⟨v, w, q, by omega, z2⟩
  · exact Or.inr z
/-- an atom of the class behind a known FAULT -/
theorem atom_bad {fu p f d : Nat} (hf : f ≤ 120) (g1 g2 : Int32 → xM → Option (Int32 × xM)) (x : Int32) : F_X3_atom fu g1 g2 x (cst C p (nI f)) = some (0, cst C p (nI f)) := by
  unfold F_X3_atom
  rw [next_bad hf]
  simp only [Option.bind_some]
  rw [if_neg (show ¬ (-1 : Int32) = 91 by decide)]
  unfold F_X3_atom_b35
  rw [isDigC1, if_pos rfl, if_pos (show P_X3_bookOf (-1) (cst C p (nI f)) = -1 from by unfold P_X3_bookOf; rw [if_neg (by decide), if_neg (by decide), if_neg (by decide), if_neg (by decide), if_neg (by decide)]), stop_bad hf]
  rfl
theorem atom_stop {fu q d : Nat} (hC : CT C N t) (hR : RX' R N t r b n1) (g1 g2 : Int32 → xM → Option (Int32 × xM)) (h1 h2 h3 : xM → Option (Int32 × xM)) (x : Int32) (hfu : 70000 ≤ fu) (hq : q ≤ N) (hd : ¬ (q < N ∧ dig (t q))) (hb : ∀ M, P_X3_bookOf (chr N t q) M = -1) (h91 : ¬ chr N t q = 91) : Out C R N t WT (VS C R) d q (F_X3_atom_b35 fu g1 g2 x (chr N t q) (cst C q (-1))) ((F_X12_isDigit (rst R q (-1) d)).bind fun q2 => if q2.1 = 0 then (F_X12_fails q2.2).bind fun q3 => F_X12_atom_b86 fu h1 h2 h3 q3.2 else F_X12_atom_b86 fu h1 h2 h3 q2.2) := by
  have hN := hC.1
  rw [isDigR hR hq]
  simp only [Option.bind_some]
  rw [if_neg hd, if_pos rfl, fails_ok]
  simp only [Option.bind_some]
  unfold F_X3_atom_b35 F_X12_atom_b86
  have e1 : P_X3_isDigit (chr N t q) (cst C q (-1)) = 0 := by
    rcases chr_cases hC q with ⟨e, _⟩ | ⟨z, hl, e⟩
    · rw [e, isDigC1]
    · rw [e, isDigC hl, if_neg (fun y => hd ⟨z, y⟩)]
  obtain ⟨m, rfl⟩ : ∃ z, fu = z + 1 := ⟨fu - 1, by omega⟩
  rw [e1, if_pos rfl, hb, if_pos rfl, stop_ok, F_X12_atom_b90]
  have e2 := isDigR (d := d) (f := nI q) hR hq
  rw [e2]
  simp only [Option.bind_some]
  rw [if_neg hd, if_pos rfl]
  exact Or.inr ⟨0, _, 0, q, d, q, hq, rfl, Or.inl ⟨q, rfl⟩, rfl, trivial, trivial⟩
theorem atom_ok (hC : CT C N t) (hR : RX' R N t r b n1) {fu : Nat} (hfu : 70000 ≤ fu) (g1 g2 : Int32 → xM → Option (Int32 × xM)) (h1 h2 h3 : xM → Option (Int32 × xM)) {d : Nat} (hd6 : d ≤ 6) (hS : d < 6 → ∀ p, p ≤ N → Out C R N t WT (VS C R) (d + 1) p (g1 (nI (d + 1)) (cst C p (-1))) (h1 (rst R p (-1) (d + 1)))) {p : Nat} (hp : p ≤ N) : Out C R N t WT (VS C R) d p (F_X3_atom fu g1 g2 (nI d) (cst C p (-1))) (F_X12_atom fu h1 h2 h3 (rst R p (-1) d)) := by
  have hN := hC.1
  have hq := sk_le (t := t) hp
  have hge := sk_ge (t := t) hp
  unfold F_X3_atom F_X12_atom
  rw [next_ok hC hfu hp, look_ok hR hfu hp]
  simp only [Option.bind_some]
  generalize hqq : sk N t p = q at hq hge ⊢
  refine Out.le (p := q) ?_ hge
  rw [show P_X12_isAmong 1001 (chr N t q) (rst R q (-1) d) = xam (xtx 1001) (chr N t q) from rfl]
  rcases chr_cases hC q with ⟨e, hqN⟩ | ⟨hqN, hl, e⟩
  · rw [if_neg (show ¬ chr N t q = 91 by rw [e]; decide), if_neg (show ¬ chr N t q = 91 by rw [e]; decide), show xam (xtx 1001) (chr N t q) = 0 by rw [e]; exact among_m1, if_pos rfl]
    exact atom_stop hC hR g1 g2 h1 h2 h3 (nI d) hfu hq (fun z => hqN z.1) (fun M => by
      rw [e]
      unfold P_X3_bookOf
      rw [if_neg (by decide), if_neg (by decide), if_neg (by decide), if_neg (by decide), if_neg (by decide)]) (by rw [e]; decide)
  by_cases h91 : t q = 91
  · have e91 : chr N t q = 91 := by rw [e, h91]; rfl
    rw [if_pos e91, show xam (xtx 1001) (chr N t q) = 0 by rw [e91]; decide, if_pos rfl, if_pos e91]
    unfold F_X3_goesDeeper F_X12_goesIn
    rw [rst_22]
    by_cases hd : d < 6
    · rw [if_pos (show nI d < 6 from (nI_ltI (b := 6) (by omega) (by decide)).mpr hd), if_neg (show ¬ nI d = 6 from fun z => by have := (nI_eq (a := d) (b := 6) (by omega) (by decide)).mp z; omega)]
      simp only [Option.bind_some]
      rw [if_neg (show ¬ ((1 : Int32) = 0) by decide), if_neg (show ¬ ((1 : Int32) = 0) by decide), cst_44, add1, add1, cst_s4, rst_s22, rst_20, add1, rst_s20]
      rcases hS hd (q + 1) (by omega) with ⟨v, w, q2, z1, z2, e1, e2, _, _, hV⟩ | ⟨v, M, w, q2, e', f, hf, e1, hB, e2, _, _⟩
      · rw [e1, e2]
        simp only [Option.bind_some]
        rw [show (93 : Int32) = nI 93 from rfl, expect_ok hC hfu z2, takes_ok hR hfu z2]
        simp only [Option.bind_some]
        have hs1 := sk_le (t := t) z2
        have hs2 := sk_ge (t := t) z2
        by_cases hx : chr N t (sk N t q2) = nI 93
        · have := chr_lt hx (by decide)
          rw [if_pos hx, if_pos hx]
          simp only
          rw [if_neg (show ¬ ((1 : Int32) = 0) by decide), rst_22, sub1 (show 1 ≤ d + 1 by omega), Nat.add_sub_cancel, rst_s22]
          exact Or.inl ⟨v, w, sk N t q2 + 1, by omega, by omega, rfl, rfl, trivial, trivial, hV⟩
        · rw [if_neg hx, if_neg hx]
          simp only [if_true]
          exact Or.inr ⟨v, _, 0, _, d + 1, sk N t q2, hs1, rfl, Or.inl ⟨_, rfl⟩, rfl, trivial, trivial⟩
      · rw [e1, e2]
        simp only [Option.bind_some]
        obtain ⟨p2, hp2⟩ := bd_expect hC hfu hf hB (c := 93) (by decide) (by decide)
        rw [show (93 : Int32) = nI 93 from rfl, hp2, takes_bad (by omega)]
        simp only [Option.bind_some, if_true]
        exact Or.inr ⟨v, _, 0, q2, e', f, hf, rfl, Or.inl ⟨p2, rfl⟩, rfl, trivial, trivial⟩
    · obtain rfl : d = 6 := by omega
      rw [if_neg (show ¬ nI 6 < 6 by decide), if_pos (show nI 6 = 6 by decide), stop_ok, fails_ok]
      simp only [Option.bind_some, if_true, true_or]
      unfold F_X3_atom_b35
      rw [e91, show (91 : Int32) = nI 91 from rfl, isDigC (by decide), if_neg (show ¬ dig 91 by decide), if_pos rfl, bookOf_tab (by decide), if_neg (show ¬ bk 91 by decide), if_pos rfl, stop_bad (by omega)]
      exact Or.inr ⟨0, _, 0, q, 6, q, hq, rfl, Or.inl ⟨q, rfl⟩, rfl, trivial, trivial⟩
  have e91 : ¬ chr N t q = 91 := by
    rw [e]
    exact fun z => h91 ((nI_eq (a := t q) (b := 91) (by omega) (by decide)).mp z)
  rw [if_neg e91, if_neg e91]
  by_cases hb : bk (t q)
  · rw [show xam (xtx 1001) (chr N t q) = 1 by rw [e, among_tab _ hl, if_pos hb], if_neg (show ¬ ((1 : Int32) = 0) by decide), e, if_neg (idx_no (show t q < 128 by rcases hb with z | z | z | z | z <;> omega) (by decide)), nI_clamp (by omega)]
    unfold F_X3_atom_b35
    rw [isDigC hl, if_neg (show ¬ dig (t q) by rcases hb with z | z | z | z | z <;> omega), if_pos rfl, bookOf_tab hl, if_pos hb, if_neg (nIm1 (by have := bidx_lt (t q); omega)), at_ok (bidx_lt _) (by decide), cst_44, add1, cst_s4, rst_20, add1, rst_s20, cst_o (by decide), rst_o (by decide)]
    exact Or.inl ⟨_, _, q + 1, by omega, by omega, rfl, rfl, trivial, trivial, fun hE => hE _ hb⟩
  · rw [show xam (xtx 1001) (chr N t q) = 0 by rw [e, among_tab _ hl, if_neg hb], if_pos rfl]
    by_cases hd : dig (t q)
    · rw [isDigR hR hq]
      simp only [Option.bind_some]
      rw [if_pos (show q < N ∧ dig (t q) from ⟨hqN, hd⟩), if_neg (show ¬ ((1 : Int32) = 0) by decide)]
      unfold F_X3_atom_b35 F_X12_atom_b86 F_X3_digits
      rw [e, isDigC hl, if_pos hd, if_neg (show ¬ ((1 : Int32) = 0) by decide)]
      rcases dg_loop hC hR (fu := fu) g1 g2 h1 h2 h3 (d := d) 4 0 q fu fu 0 (by omega) (by omega) (by omega) hq (by decide) with ⟨v, w, q2, z1, z2, e1, e2, z3⟩ | ⟨v, M, w, q2, e', f, hf, e1, hB, e2, z3⟩
      · rw [show F_X3_digits_b4 fu fu 0 0 (cst C q (-1)) = some (v, cst C q2 (-1)) from e1]
        exact Or.inl ⟨v, w, q2, z1, z2, rfl, e2, z3⟩
      · rw [show F_X3_digits_b4 fu fu 0 0 (cst C q (-1)) = some (v, M) from e1]
        exact Or.inr ⟨v, M, w, q2, e', f, hf, rfl, hB, e2, z3⟩
    · exact atom_stop hC hR g1 g2 h1 h2 h3 (nI d) hfu hq (fun z => hd z.2) (fun M => by rw [e, bookOf_tab hl, if_neg hb]) e91
end SUMS
