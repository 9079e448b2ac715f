/-! THE READER of a text, on both sides: where it stands, what comes next -/
def cst (C : xM) (p : Nat) (f : Int32) : xM := fun a b => if a = 4 ∧ b = 4 then nI p else if a = 4 ∧ b = 0 then f else C a b
def rst (R : xM) (p : Nat) (f : Int32) (d : Nat) : xM := fun a b => if a = 0 ∧ b = 20 then nI p else if a = 0 ∧ b = 21 then f else if a = 0 ∧ b = 22 then nI d else R a b
def CT (C : xM) (N : Nat) (t : Nat → Nat) : Prop := N ≤ 120 ∧ C 4 3 = nI N ∧ ∀ i, i < N → t i < 256 ∧ C 20 i = nI (t i)
def RX' (R : xM) (N : Nat) (t : Nat → Nat) (r b n1 : Nat) : Prop := N ≤ 120 ∧ (∀ i, i < N → t i < 256) ∧ r ≠ 0 ∧ r < 1000 ∧ xlen SM 1 r = some n1 ∧ b + N ≤ n1 ∧ n1 ≤ 480 ∧ R 0 14 = nI r ∧ R 0 18 = nI b ∧ R 0 19 = nI N ∧ ∀ i, i < N → R r (b + i) = sb (t i)
def chr (N : Nat) (t : Nat → Nat) (q : Nat) : Int32 := if q < N then nI (t q) else -1
def skN (N : Nat) (t : Nat → Nat) : Nat → Nat → Nat
  | 0, p => p
  | k + 1, p => if p < N ∧ t p = 32 then skN N t k (p + 1) else p
def sk (N : Nat) (t : Nat → Nat) (p : Nat) : Nat := skN N t (N - p) p
abbrev dig (b : Nat) : Prop := 48 ≤ b ∧ b ≤ 57
section TEXT
variable {C R : xM} {N : Nat} {t : Nat → Nat} {r b n1 : Nat}
theorem cst_44 {p : Nat} {f : Int32} : (cst C p f) 4 4 = nI p := rfl
theorem cst_40 {p : Nat} {f : Int32} : (cst C p f) 4 0 = f := rfl
theorem cst_43 {p : Nat} {f : Int32} : (cst C p f) 4 3 = C 4 3 := rfl
theorem cst_o {p : Nat} {f : Int32} {a j : Nat} (h : a ≠ 4) : (cst C p f) a j = C a j := by
  unfold cst
  rw [if_neg (fun z => h z.1), if_neg (fun z => h z.1)]
theorem cst_s4 {p q : Nat} {f : Int32} : xset (cst C p f) 4 4 (nI q) = cst C q f := by
  funext a j
  unfold xset cst
  by_cases h : a = 4 ∧ j = 4
  · rw [if_pos h, if_pos h]
  · rw [if_neg h, if_neg h, if_neg h]
theorem cst_s0 {p : Nat} {f g : Int32} : xset (cst C p f) 4 0 g = cst C p g := by
  funext a j
  unfold xset cst
  by_cases h : a = 4 ∧ j = 0
  · rw [if_pos h, if_pos h, if_neg (fun z => by omega)]
  · rw [if_neg h, if_neg h, if_neg h]
theorem rst_20 {p d : Nat} {f : Int32} : (rst R p f d) 0 20 = nI p := rfl
theorem rst_21 {p d : Nat} {f : Int32} : (rst R p f d) 0 21 = f := rfl
theorem rst_22 {p d : Nat} {f : Int32} : (rst R p f d) 0 22 = nI d := rfl
theorem rst_14 {p d : Nat} {f : Int32} : (rst R p f d) 0 14 = R 0 14 := rfl
theorem rst_18 {p d : Nat} {f : Int32} : (rst R p f d) 0 18 = R 0 18 := rfl
theorem rst_19 {p d : Nat} {f : Int32} : (rst R p f d) 0 19 = R 0 19 := rfl
theorem rst_o {p d : Nat} {f : Int32} {a j : Nat} (h : a ≠ 0) : (rst R p f d) a j = R a j := by
  unfold rst
  rw [if_neg (fun z => h z.1), if_neg (fun z => h z.1), if_neg (fun z => h z.1)]
theorem rst_s20 {p q d : Nat} {f : Int32} : xset (rst R p f d) 0 20 (nI q) = rst R q f d := by
  funext a j
  unfold xset rst
  by_cases h : a = 0 ∧ j = 20
  · rw [if_pos h, if_pos h]
  · rw [if_neg h, if_neg h, if_neg h]
theorem rst_s21 {p d : Nat} {f g : Int32} : xset (rst R p f d) 0 21 g = rst R p g d := by
  funext a j
  unfold xset rst
  by_cases h : a = 0 ∧ j = 21
  · rw [if_pos h, if_pos h, if_neg (fun z => by omega)]
  · rw [if_neg h, if_neg h, if_neg h]
theorem rst_s22 {p d e : Nat} {f : Int32} : xset (rst R p f d) 0 22 (nI e) = rst R p f e := by
  funext a j
  unfold xset rst
  by_cases h : a = 0 ∧ j = 22
  · rw [if_pos h, if_pos h, if_neg (fun z => by omega), if_neg (fun z => by omega)]
  · rw [if_neg h, if_neg h, if_neg h]
theorem skN_spec : ∀ k p, p + k = N → p ≤ skN N t k p ∧ skN N t k p ≤ N ∧ (skN N t k p < N → ¬ t (skN N t k p) = 32) := by
  intro k
  induction k with
  | zero =>
    intro p hp
    rw [skN]
    exact ⟨Nat.le_refl p, by omega, fun h => absurd h (by omega)⟩
  | succ k ih =>
    intro p hp
    rw [skN]
    by_cases h : p < N ∧ t p = 32
    · rw [if_pos h]
      obtain ⟨a1, a2, a3⟩ := ih (p + 1) (by omega)
      exact ⟨by omega, a2, a3⟩
    · rw [if_neg h]
      exact ⟨Nat.le_refl p, by omega, fun z w => h ⟨z, w⟩⟩
theorem sk_ge {p : Nat} (h : p ≤ N) : p ≤ sk N t p := (skN_spec (t := t) (N - p) p (by omega)).1
theorem sk_le {p : Nat} (h : p ≤ N) : sk N t p ≤ N := (skN_spec (t := t) (N - p) p (by omega)).2.1
theorem sk_id {p : Nat} (h : p < N → ¬ t p = 32) : sk N t p = p := by
  unfold sk
  cases hk : N - p with
  | zero => rfl
  | succ k =>
    rw [skN, if_neg (fun z => h z.1 z.2)]
theorem sk_sk {p : Nat} (h : p ≤ N) : sk N t (sk N t p) = sk N t p := sk_id (skN_spec (t := t) (N - p) p (by omega)).2.2
theorem chr_in {q : Nat} (h : q < N) : chr N t q = nI (t q) := if_pos h
theorem chr_out {q : Nat} (h : ¬ q < N) : chr N t q = -1 := if_neg h
theorem m1_ne {x : Nat} (h : x < 256) : ¬ (-1 : Int32) = nI x := fun z => nIm1 (by omega) z.symm
theorem next_ok (hC : CT C N t) {fu : Nat} (hfu : 70000 ≤ fu) {p : Nat} (hp : p ≤ N) : F_X3_next fu (cst C p (-1)) = some (chr N t (sk N t p), cst C (sk N t p) (-1)) := by
  obtain ⟨hN, h3, h20⟩ := hC
  have loop : ∀ k p n, p + k = N → k < n → F_X3_next_b10 fu n (cst C p (-1)) = some (chr N t (skN N t k p), cst C (skN N t k p) (-1)) := by
    intro k
    induction k with
    | zero =>
      intro p n hp hn
      obtain ⟨n, rfl⟩ : ∃ z, n = z + 1 := ⟨n - 1, by omega⟩
      rw [F_X3_next_b10, cst_44, cst_43, h3, if_neg (nI_pos (by omega)), if_pos (nI_le (by omega) (by omega)), skN, chr_out (by omega)]
    | succ k ih =>
      intro p n hp hn
      obtain ⟨n, rfl⟩ : ∃ z, n = z + 1 := ⟨n - 1, by omega⟩
      obtain ⟨q1, q2⟩ := h20 p (by omega)
      rw [F_X3_next_b10, cst_44, cst_43, h3, if_neg (nI_pos (by omega)), if_neg (show ¬ nI N ≤ nI p from nI_ge (by omega) (by omega)), if_neg (show ¬ Int32.ofNat 120 ≤ nI p from (nI_ge (by omega) (by omega) : ¬ nI 120 ≤ nI p)), if_neg (idx_no (show p < 120 by omega) (by decide)), nI_clamp (by omega), if_neg (idx_no2 (show p < 120 by omega) (by decide)), cst_o (by decide), q2, add1, cst_s4, skN]
      by_cases h : t p = 32
      · rw [if_pos (show nI (t p) = 32 by rw [h]; rfl), if_pos ⟨by omega, h⟩]
        exact ih (p + 1) n (by omega) (by omega)
      · rw [if_neg (show ¬ nI (t p) = 32 from fun z => h ((nI_eq (b := 32) (by omega) (by decide)).mp z)), if_neg (fun z => h z.2), chr_in (by omega)]
  unfold F_X3_next
  rw [cst_40, if_pos rfl]
  exact loop (N - p) p fu (by omega) (by omega)
theorem next_bad {p f fu : Nat} (hf : f ≤ 120) : F_X3_next fu (cst C p (nI f)) = some (-1, cst C p (nI f)) := by
  unfold F_X3_next
  rw [cst_40, if_neg (nIm1 (by omega))]
theorem sb32 : ∀ x, x < 256 → (sb x = 32 ↔ x = 32) := by decide +kernel
theorem sb255 : ∀ x, x < 256 → sb x &&& 255 = nI x := by decide +kernel
theorem sbdig : ∀ x, x < 256 → ((sb x < 48 ∨ 57 < sb x) ↔ ¬ dig x) ∧ (dig x → sb x = nI x) := by decide +kernel
theorem idx_noI {x : Int32} {j n : Nat} (e : x = nI j) (h : j < n) (hn : n ≤ 1000000) : ¬ (x < 0 ∨ n ≤ x.toNatClampNeg) := by
  rw [e]
  exact idx_no h hn
theorem look_ok (hR : RX' R N t r b n1) {fu : Nat} (hfu : 70000 ≤ fu) {p d : Nat} {f : Int32} (hp : p ≤ N) : F_X12_look fu (rst R p f d) = some (chr N t (sk N t p), rst R (sk N t p) f d) := by
  obtain ⟨hN, ht, hr0, hr1, hx, hb, hn1, h14, h18, h19, hT⟩ := hR
  have b43 : ∀ p, p ≤ N → F_X12_look_b43 fu (rst R p f d) = some (chr N t p, rst R p f d) := by
    intro p hp
    unfold F_X12_look_b43
    rw [rst_19, rst_20, rst_14, rst_18, h14, h18, h19, nI_clamp (by omega), hx, nI_add, nI_clamp (by omega)]
    by_cases h : p < N
    · rw [if_neg (show ¬ nI N ≤ nI p from nI_ge h (by omega)), chr_in h]
      simp only [Option.bind_some]
      rw [if_neg (idx_no2 (show b + p < n1 by omega) (by omega)), rst_o hr0, hT p h, sb255 _ (ht p h)]
    · rw [if_pos (nI_le (by omega) (by omega)), chr_out h]
  have loop : ∀ k p n, p + k = N → k < n → F_X12_look_b0 fu n (rst R p f d) = some (chr N t (skN N t k p), rst R (skN N t k p) f d) := by
    intro k
    induction k with
    | zero =>
      intro p n hp hn
      obtain ⟨n, rfl⟩ : ∃ z, n = z + 1 := ⟨n - 1, by omega⟩
      rw [F_X12_look_b0, b43 p (by omega), rst_19, rst_20, h19, if_pos (nI_le (by omega) (by omega)), skN]
    | succ k ih =>
      intro p n hp hn
      obtain ⟨n, rfl⟩ : ∃ z, n = z + 1 := ⟨n - 1, by omega⟩
      have htp := ht p (by omega)
      rw [F_X12_look_b0, b43 p (by omega), rst_19, rst_20, rst_14, rst_18, h14, h18, h19, nI_clamp (by omega), hx, nI_add, nI_clamp (by omega), if_neg (show ¬ nI N ≤ nI p from nI_ge (by omega) (by omega))]
      simp only [Option.bind_some]
      rw [if_neg (idx_no2 (show b + p < n1 by omega) (by omega)), rst_o hr0, hT p (by omega), add1, rst_s20, skN]
      by_cases h : t p = 32
      · rw [if_pos ((sb32 _ htp).mpr h), if_pos ⟨by omega, h⟩]
        exact ih (p + 1) n (by omega) (by omega)
      · rw [if_neg (fun z => h ((sb32 _ htp).mp z)), if_neg (fun z => h z.2)]
  exact loop (N - p) p fu (by omega) (by omega)
theorem isDigR (hR : RX' R N t r b n1) {p d : Nat} {f : Int32} (hp : p ≤ N) : F_X12_isDigit (rst R p f d) = some (if p < N ∧ dig (t p) then 1 else 0, rst R p f d) := by
  obtain ⟨hN, ht, hr0, hr1, hx, hb, hn1, h14, h18, h19, hT⟩ := hR
  unfold F_X12_isDigit
  rw [rst_19, rst_20, rst_14, rst_18, h14, h18, h19, nI_clamp (by omega), hx, nI_add, nI_clamp (by omega)]
  by_cases h : p < N
  · obtain ⟨s1, s2⟩ := sbdig _ (ht p h)
    rw [if_neg (show ¬ nI N ≤ nI p from nI_ge h (by omega))]
    simp only [Option.bind_some]
    rw [if_neg (idx_no2 (show b + p < n1 by omega) (by omega)), rst_o hr0, hT p h, if_neg (idx_no2 (show b + p < n1 by omega) (by omega))]
    by_cases hd : dig (t p)
    · have hn := fun z => s1.mp z hd
      rw [if_neg (fun z => hn (Or.inl z)), if_neg (fun z => hn (Or.inr z)), if_pos ⟨h, hd⟩]
    · rw [if_neg (show ¬ (p < N ∧ dig (t p)) from fun z => hd z.2)]
      by_cases z : sb (t p) < 48
      · rw [if_pos z]
      · rw [if_neg z, if_pos ((s1.mpr hd).resolve_left z)]
  · rw [if_pos (nI_le (by omega) (by omega)), if_neg (fun z => h z.1)]
theorem isDigC {x : Nat} (h : x < 256) {M : xM} : P_X3_isDigit (nI x) M = if dig x then 1 else 0 := by
  have : ∀ x, x < 256 → (if nI x < 48 then (0 : Int32) else if 57 < nI x then 0 else 1) = if dig x then 1 else 0 := by decide +kernel
  exact this x h
theorem isDigC1 {M : xM} : P_X3_isDigit (-1) M = 0 := by
  unfold P_X3_isDigit
  rw [if_pos (by decide)]
/-- the class's state behind a FAULT at f: it knows it, or stands before a fifth digit there -/
def Bd (C : xM) (N : Nat) (t : Nat → Nat) (f : Nat) (M : xM) : Prop := (∃ p, M = cst C p (nI f)) ∨ (M = cst C f (-1) ∧ f < N ∧ dig (t f))
def Out (C R : xM) (N : Nat) (t : Nat → Nat) (W : Int32 → Prop) (V : Int32 → Int32 → Prop) (d p : Nat) (a b : Option (Int32 × xM)) : Prop :=
  (∃ v w q, p ≤ q ∧ q ≤ N ∧ a = some (v, cst C q (-1)) ∧ b = some (w, rst R q (-1) d) ∧ W v ∧ W w ∧ V v w) ∨
  (∃ v M w q e f, f ≤ N ∧ a = some (v, M) ∧ Bd C N t f M ∧ b = some (w, rst R q (nI f) e) ∧ W v ∧ W w)
def noop (x : Int32) : Prop := x = -1 ∨ ∃ c, dig c ∧ x = nI c
theorem noop_ne {x : Int32} (h : noop x) {c : Nat} (hc : c < 256) (hd : ¬ dig c) : ¬ x = nI c := by
  rcases h with rfl | ⟨a, ha, rfl⟩
  · exact m1_ne hc
  · intro z
    have := (nI_eq (by omega) (by omega)).mp z
    subst this
    exact hd ha
theorem bd_next (hC : CT C N t) {fu : Nat} (hfu : 70000 ≤ fu) {f : Nat} (hf : f ≤ N) {M : xM} (h : Bd C N t f M) : ∃ x, noop x ∧ F_X3_next fu M = some (x, M) := by
  have hN := hC.1
  rcases h with ⟨p, rfl⟩ | ⟨rfl, h1, h2⟩
  · exact ⟨-1, Or.inl rfl, next_bad (by omega)⟩
  · refine ⟨nI (t f), Or.inr ⟨t f, h2, rfl⟩, ?_⟩
    rw [next_ok hC hfu hf, sk_id (fun _ z => by omega), chr_in h1]
theorem stop_ok {p : Nat} : F_X3_stop (cst C p (-1)) = some (cst C p (nI p)) := by
  unfold F_X3_stop
  rw [cst_40, if_pos rfl, cst_44, cst_s0]
theorem stop_bad {p f : Nat} (hf : f ≤ 120) : F_X3_stop (cst C p (nI f)) = some (cst C p (nI f)) := by
  unfold F_X3_stop
  rw [cst_40, if_neg (nIm1 (by omega))]
theorem bd_stop {f : Nat} (hf : f ≤ N) (hN : N ≤ 120) {M : xM} (h : Bd C N t f M) : ∃ p, F_X3_stop M = some (cst C p (nI f)) := by
  rcases h with ⟨p, rfl⟩ | ⟨rfl, h1, h2⟩
  · exact ⟨p, stop_bad (by omega)⟩
  · exact ⟨f, stop_ok⟩
theorem bd_expect (hC : CT C N t) {fu : Nat} (hfu : 70000 ≤ fu) {f : Nat} (hf : f ≤ N) {M : xM} (h : Bd C N t f M) {c : Nat} (hc : c < 256) (hd : ¬ dig c) : ∃ p, F_X3_expect fu (nI c) M = some (cst C p (nI f)) := by
  obtain ⟨x, h1, h2⟩ := bd_next hC hfu hf h
  obtain ⟨p, h3⟩ := bd_stop hf hC.1 h
  refine ⟨p, ?_⟩
  unfold F_X3_expect
  rw [h2]
  simp only [Option.bind_some]
  rw [if_neg (noop_ne h1 hc hd), h3]
  rfl
theorem expect_ok (hC : CT C N t) {fu : Nat} (hfu : 70000 ≤ fu) {p : Nat} (hp : p ≤ N) (x : Int32) : F_X3_expect fu x (cst C p (-1)) = some (if chr N t (sk N t p) = x then cst C (sk N t p + 1) (-1) else cst C (sk N t p) (nI (sk N t p))) := by
  unfold F_X3_expect
  rw [next_ok hC hfu hp]
  simp only [Option.bind_some]
  by_cases h : chr N t (sk N t p) = x
  · rw [if_pos h, if_pos h, cst_44, add1, cst_s4]
  · rw [if_neg h, if_neg h, stop_ok]
    rfl
theorem fails_ok {p d : Nat} : F_X12_fails (rst R p (-1) d) = some (0, rst R p (nI p) d) := by
  unfold F_X12_fails
  rw [rst_21, if_pos rfl, rst_20, rst_s21]
theorem fails_bad {p f d : Nat} (hf : f ≤ 120) : F_X12_fails (rst R p (nI f) d) = some (0, rst R p (nI f) d) := by
  unfold F_X12_fails
  rw [rst_21, if_neg (nIm1 (by omega))]
theorem takes_ok (hR : RX' R N t r b n1) {fu : Nat} (hfu : 70000 ≤ fu) {p d : Nat} (hp : p ≤ N) (x : Int32) : F_X12_takes fu x (rst R p (-1) d) = some (if chr N t (sk N t p) = x then (1, rst R (sk N t p + 1) (-1) d) else (0, rst R (sk N t p) (nI (sk N t p)) d)) := by
  unfold F_X12_takes F_X12_takes_b16
  rw [rst_21, if_pos rfl, look_ok hR hfu hp]
  simp only [Option.bind_some]
  by_cases h : chr N t (sk N t p) = x
  · rw [if_pos h, if_pos h, rst_20, add1, rst_s20]
  · rw [if_neg h, if_neg h, fails_ok]
    simp only [Option.bind_some]
    rw [if_pos (by simp)]
theorem takes_bad {p f d fu : Nat} (hf : f ≤ 120) (x : Int32) : F_X12_takes fu x (rst R p (nI f) d) = some (0, rst R p (nI f) d) := by
  unfold F_X12_takes F_X12_takes_b16
  rw [rst_21, if_neg (nIm1 (by omega)), fails_bad hf]
  simp only [Option.bind_some]
  rw [if_pos (by simp)]
theorem chr_lt {q c : Nat} (h : chr N t q = nI c) (hc : c < 256) : q < N := by
  apply Classical.byContradiction
  intro z
  rw [chr_out z] at h
  exact m1_ne hc h
end TEXT
