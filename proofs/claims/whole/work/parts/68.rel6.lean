/-! OFFICES and STRAPS on ROWS -/
def BCw (n : Nat) (x : Int32) : Int32 := if _h : n = 0 then P_J6_bitCount_0f7a4 x (fun _ _ => 0) else BCw (n - 1) x
termination_by n
def BC (x : Int32) : Int32 := BCw 0 x
theorem bcM (x : Int32) (M : xM) : P_J6_bitCount_0f7a4 x M = BC x := by
  unfold BC
  rw [BCw, dif_pos rfl]
  rfl
def agF (R : xM) (x f : Int32) : Nat → Int32
  | 0 => 0
  | k + 1 => if R 4 k &&& (f ^^^ (-1)) = 0 then agF R x f k else if BC (x &&& R 4 k) ≤ R 5 k then agF R x f k else agF R x f k ||| ((1 : Int32) <<< (nI k &&& 31))
abbrev lawP (R : xM) (x : Int32) (n : Nat) : Prop := ∀ k, k < n → BC (x &&& R 1 k) ≤ R 2 k
def SV (C R : xM) (sn : Nat) : Prop := sn ≤ 10 ∧ C 1 2 = nI sn ∧ R 0 8 = nI sn ∧ RP C R
def RO (C R : xM) : Prop := (∀ t, t < 6 → C 11 t = R 1 t ∧ C 12 t = R 2 t) ∧ (∀ t, t < 6 → ∃ a : Nat, a < 65536 ∧ R 1 t = nI a) ∧ ∀ t, t < 6 → ∃ a : Nat, a ≤ 63 ∧ R 2 t = nI a
abbrev ROc : List (Nat × Option Nat) := [(11, none), (12, none)]
abbrev ROr : List (Nat × Option Nat) := [(1, none), (2, none)]
theorem RO_m (C R : xM) : RO (msk ROc C) (msk ROr R) ↔ RO C R := Iff.rfl
def OV (C R : xM) (on : Nat) : Prop := on ≤ 6 ∧ C 1 1 = nI on ∧ R 0 7 = nI on ∧ RO C R
section RW
variable {C R : xM}
theorem f0 : (0 : Int32) ^^^ (-1) = -1 := by decide
theorem andm1 (x : Int32) : x &&& (-1) = x := by
  apply tb_ext
  intro p hp
  rw [tb_and]
  have h : ∀ i, i < 32 → tb (-1) i = true := by decide +kernel
  rw [h p hp, Bool.and_true]
theorem and0' (x : Int32) : x &&& 0 = 0 := by
  apply tb_ext
  intro p hp
  rw [tb_and, tb_0, Bool.and_false]
theorem agC_loop {sn : Nat} (h : SV C R sn) (x f : Int32) (fu : Nat) : ∀ (k i n : Nat), i + k = sn → k < n → F_X0_strapsAgainst_b5 fu x f n (agF R x f i) (nI i) C = some (agF R x f sn, C) := by
  obtain ⟨h1, h2, h3, q1, q2, q3⟩ := h
  intro k
  induction k with
  | zero =>
    intro i n hi hn
    obtain ⟨n, rfl⟩ : ∃ z, n = z + 1 := ⟨n - 1, by omega⟩
    rw [F_X0_strapsAgainst_b5, h2, if_pos (nI_le (by omega) (by omega)), show i = sn by omega]
  | succ k ih =>
    intro i n hi hn
    obtain ⟨n, rfl⟩ : ∃ z, n = z + 1 := ⟨n - 1, by omega⟩
    have hi10 : i < 10 := by omega
    have e : ¬ nI sn ≤ nI i := nI_ge (by omega) (by omega)
    have := ih (i + 1) n (by omega) (by omega)
    rw [agF] at this
    rw [F_X0_strapsAgainst_b5, h2, if_neg e, at_ok hi10 (by decide), (q1 i hi10).1]
    by_cases h4 : R 4 i &&& (f ^^^ (-1)) = 0
    · rw [if_pos h4] at this
      rw [if_pos h4, F_X0_strapsAgainst_b39, if_neg (by decide), F_X0_strapsAgainst_b73, add1]
      exact this
    · rw [if_neg h4] at this
      rw [if_neg h4, F_X0_strapsAgainst_b39, if_pos rfl, at_ok hi10 (by decide), (q1 i hi10).2, bit_eq (by omega), F_X0_strapsAgainst_b73, F_X0_strapsAgainst_b73, add1, bcM]
      by_cases h5 : BC (x &&& R 4 i) ≤ R 5 i
      · rw [if_pos h5] at this
        rw [if_pos h5]
        exact this
      · rw [if_neg h5] at this
        rw [if_neg h5]
        exact this
theorem agC {sn : Nat} (h : SV C R sn) (x f : Int32) {fu : Nat} (hfu : 70000 ≤ fu) : F_X0_strapsAgainst fu x f C = some (agF R x f sn, C) :=
  agC_loop h x f fu sn 0 fu (by omega) (by have := h.1; omega)
theorem bc0 : BC 0 = 0 := by
  rw [← bcM 0 (fun _ _ => 0)]
  decide +kernel
theorem agR_loop {sn : Nat} (h : SV C R sn) (x : Int32) (fu : Nat) : ∀ (k i n : Nat), i + k = sn → k < n → F_X12_against_b4 fu x n (agF R x 0 i) (nI i) R = some (agF R x 0 sn, R) := by
  obtain ⟨h1, h2, h3, q1, q2, q3⟩ := h
  intro k
  induction k with
  | zero =>
    intro i n hi hn
    obtain ⟨n, rfl⟩ : ∃ z, n = z + 1 := ⟨n - 1, by omega⟩
    rw [F_X12_against_b4, h3, if_pos (nI_le (by omega) (by omega)), show i = sn by omega]
  | succ k ih =>
    intro i n hi hn
    obtain ⟨n, rfl⟩ : ∃ z, n = z + 1 := ⟨n - 1, by omega⟩
    have hi10 : i < 10 := by omega
    have e : ¬ nI sn ≤ nI i := nI_ge (by omega) (by omega)
    have := ih (i + 1) n (by omega) (by omega)
    rw [agF, f0, andm1] at this
    rw [F_X12_against_b4, h3, if_neg e, if_neg (idx_no hi10 (by decide)), if_neg (idx_no hi10 (by decide)), nI_clamp (by omega), F_X12_against_b40, F_X12_against_b40, add1, bcM, or0]
    by_cases h4 : R 4 i = 0
    · rw [if_pos h4] at this
      obtain ⟨a, ha, ea⟩ := q3 i hi10
      have h5 : BC (x &&& R 4 i) ≤ R 5 i := by
        rw [h4, and0', bc0, ea]
        exact (show nI 0 ≤ nI a from nI_le (Nat.zero_le _) (by omega))
      rw [if_pos h5]
      exact this
    · rw [if_neg h4] at this
      by_cases h5 : BC (x &&& R 4 i) ≤ R 5 i
      · rw [if_pos h5] at this
        rw [if_pos h5]
        exact this
      · rw [if_neg h5] at this
        rw [if_neg h5]
        exact this
theorem agR {sn : Nat} (h : SV C R sn) (x : Int32) {fu : Nat} (hfu : 70000 ≤ fu) : F_X12_against fu x R = some (agF R x 0 sn, R) :=
  agR_loop h x fu sn 0 fu (by omega) (by have := h.1; omega)
theorem lwC_loop {on : Nat} (h : OV C R on) (x : Int32) (fu : Nat) : ∀ (k i n : Nat), i + k = on → k < n → lawP R x i → F_X0_isLawful_b2 fu x n (nI i) C = some (if lawP R x on then 1 else 0, C) := by
  obtain ⟨h1, h2, h3, q1, q2, q3⟩ := h
  intro k
  induction k with
  | zero =>
    intro i n hi hn hl
    obtain ⟨n, rfl⟩ : ∃ z, n = z + 1 := ⟨n - 1, by omega⟩
    obtain rfl : i = on := by omega
    rw [F_X0_isLawful_b2, h2, if_pos (nI_le (by omega) (by omega)), if_pos hl]
  | succ k ih =>
    intro i n hi hn hl
    obtain ⟨n, rfl⟩ : ∃ z, n = z + 1 := ⟨n - 1, by omega⟩
    have hi10 : i < 6 := by omega
    have e : ¬ nI on ≤ nI i := nI_ge (by omega) (by omega)
    rw [F_X0_isLawful_b2, h2, if_neg e, P_X0_leversOf, P_X0_mostOf, at_ok hi10 (by decide), at_ok hi10 (by decide), (q1 i hi10).1, (q1 i hi10).2, bcM, add1]
    by_cases h5 : BC (x &&& R 1 i) ≤ R 2 i
    · rw [if_pos h5]
      refine ih (i + 1) n (by omega) (by omega) fun j hj => ?_
      by_cases ej : j = i
      · subst ej
        exact h5
      · exact hl j (by omega)
    · rw [if_neg h5, if_neg (fun z => h5 (z i (by omega)))]
theorem lwC {on : Nat} (h : OV C R on) (x : Int32) {fu : Nat} (hfu : 70000 ≤ fu) : F_X0_isLawful fu x C = some (if lawP R x on then 1 else 0, C) :=
  lwC_loop h x fu on 0 fu (by omega) (by have := h.1; omega) (fun j hj => absurd hj (by omega))
theorem lwR_loop {on : Nat} (h : OV C R on) (x : Int32) (fu : Nat) : ∀ (k i n : Nat), i + k = on → k < n → lawP R x i → F_X12_isLawful_b2 fu x n (nI i) R = some (if lawP R x on then 1 else 0, R) := by
  obtain ⟨h1, h2, h3, q1, q2, q3⟩ := h
  intro k
  induction k with
  | zero =>
    intro i n hi hn hl
    obtain ⟨n, rfl⟩ : ∃ z, n = z + 1 := ⟨n - 1, by omega⟩
    obtain rfl : i = on := by omega
    rw [F_X12_isLawful_b2, h3, if_pos (nI_le (by omega) (by omega)), if_pos hl]
  | succ k ih =>
    intro i n hi hn hl
    obtain ⟨n, rfl⟩ : ∃ z, n = z + 1 := ⟨n - 1, by omega⟩
    have hi10 : i < 6 := by omega
    have e : ¬ nI on ≤ nI i := nI_ge (by omega) (by omega)
    rw [F_X12_isLawful_b2, h3, if_neg e, if_neg (idx_no hi10 (by decide)), if_neg (idx_no hi10 (by decide)), nI_clamp (by omega), bcM, add1]
    by_cases h5 : BC (x &&& R 1 i) ≤ R 2 i
    · rw [if_pos h5]
      refine ih (i + 1) n (by omega) (by omega) fun j hj => ?_
      by_cases ej : j = i
      · subst ej
        exact h5
      · exact hl j (by omega)
    · rw [if_neg h5, if_neg (fun z => h5 (z i (by omega)))]
theorem lwR {on : Nat} (h : OV C R on) (x : Int32) {fu : Nat} (hfu : 70000 ≤ fu) : F_X12_isLawful fu x R = some (if lawP R x on then 1 else 0, R) :=
  lwR_loop h x fu on 0 fu (by omega) (by have := h.1; omega) (fun j hj => absurd hj (by omega))
theorem ite10 {p : Prop} [Decidable p] : (if p then (1 : Int32) else 0) = 0 ↔ ¬ p := by
  by_cases h : p
  · rw [if_pos h]
    exact ⟨fun z => absurd z (by decide), fun z => absurd h z⟩
  · rw [if_neg h]
    exact ⟨fun _ => h, fun _ => rfl⟩
theorem op_may {fu : Nat} (hfu : 70000 ≤ fu) (x1 x2 : Int32) (hN : RN C R) (hP : RP C R) (hO : RO C R) : ∃ v, F_X11_may fu x1 x2 C = some (v, C) ∧ F_X12_may fu x1 x2 R = some (v, xset R 0 0 0) := by
  obtain ⟨lv, on, sn, ln, mn, tn, tl, kn, ⟨b1, b2, b3, b4, b5, b6, b7, b8, b9⟩, ⟨c1, c2, c3, c4, c5, c6, c7, c8⟩, ⟨r1, r2, r3, r4, r5, r6, r7, r8⟩⟩ := hN
  have hs : SV C (xset R 0 0 0) sn := ⟨b4, c3, r3, hP⟩
  have ho : OV C (xset R 0 0 0) on := ⟨b3, c2, r2, hO⟩
  unfold F_X11_may F_X12_may F_X0_isLet
  rw [row_eq (C := C) (R := xset R 0 0 0) b2 c1 r1, isIn_eq (N := C), agC hs _ _ hfu, agR hs _ hfu, lwC ho _ hfu, lwR ho _ hfu]
  by_cases h1 : P_X0_isRow x1 C = 0
  · exact ⟨-1, by rw [if_pos h1], by rw [if_pos h1]⟩
  rw [if_neg h1, if_neg h1]
  by_cases h2 : P_X1_within x2 0 1 C = 0
  · exact ⟨-1, by rw [if_pos h2], by rw [if_pos h2]⟩
  rw [if_neg h2, if_neg h2]
  by_cases h3 : x2 = 0
  · rw [if_pos h3, if_pos h3]
    simp only [Option.bind_some]
    by_cases h4 : agF (xset R 0 0 0) x1 0 sn = 0
    · rw [if_pos h4, if_pos h4]
      exact ⟨1, rfl, rfl⟩
    · rw [if_neg h4, if_neg h4]
      exact ⟨0, rfl, rfl⟩
  · rw [if_neg h3, if_neg h3]
    simp only [Option.bind_some]
    by_cases h4 : lawP (xset R 0 0 0) x1 on
    · simp only [if_pos h4]
      exact ⟨1, rfl, rfl⟩
    · simp only [if_neg h4]
      exact ⟨0, rfl, rfl⟩
theorem or_loop {n : Nat} (hn : n ≤ 63) (x : Int32) (hx : BC x = nI n) (fu : Nat) : ∀ (k i : Nat) (acc : Int32) (n1 n2 : Nat), i + k = n + 1 → k < n1 → k < n2 → ∃ v, F_X0_waysToPull_b33 fu x n1 acc (nI i) C = some (v, C) ∧ F_X12_orders_b38 fu x n2 acc (nI i) R = some (v, R) := by
  intro k
  induction k with
  | zero =>
    intro i acc n1 n2 hi h1 h2
    obtain ⟨n1, rfl⟩ : ∃ z, n1 = z + 1 := ⟨n1 - 1, by omega⟩
    obtain ⟨n2, rfl⟩ : ∃ z, n2 = z + 1 := ⟨n2 - 1, by omega⟩
    rw [F_X0_waysToPull_b33, F_X12_orders_b38, bcM, bcM, hx, if_pos ((nI_ltI (by omega) (by omega)).mpr (by omega)), if_pos ((nI_ltI (by omega) (by omega)).mpr (by omega))]
    exact ⟨_, rfl, rfl⟩
  | succ k ih =>
    intro i acc n1 n2 hi h1 h2
    obtain ⟨n1, rfl⟩ : ∃ z, n1 = z + 1 := ⟨n1 - 1, by omega⟩
    obtain ⟨n2, rfl⟩ : ∃ z, n2 = z + 1 := ⟨n2 - 1, by omega⟩
    rw [F_X0_waysToPull_b33, F_X12_orders_b38, bcM, bcM, hx, if_neg (nI_nlt (by omega) (by omega)), if_neg (nI_nlt (by omega) (by omega)), add1]
    exact ih (i + 1) _ n1 n2 (by omega) (by omega) (by omega)
theorem or_loop' {n : Nat} (hn : n ≤ 63) (x : Int32) (hx : BC x = nI n) {fu : Nat} (hfu : 70000 ≤ fu) : ∃ v, F_X0_waysToPull_b33 fu x fu 1 2 C = some (v, C) ∧ F_X12_orders_b38 fu x fu 1 2 R = some (v, R) := by
  by_cases h : n = 0
  · subst h
    obtain ⟨z, rfl⟩ : ∃ z, fu = z + 1 := ⟨fu - 1, by omega⟩
    rw [F_X0_waysToPull_b33, F_X12_orders_b38, bcM, bcM, hx, if_pos (by decide), if_pos (by decide)]
    exact ⟨_, rfl, rfl⟩
  · exact or_loop hn x hx fu (n - 1) 2 1 fu fu (by omega) (by omega) (by omega)
theorem op_orders {fu : Nat} (hfu : 70000 ≤ fu) (x1 : Int32) (hN : RN C R) (hP : RP C R) : ∃ v, F_X11_orders fu x1 C = some (v, C) ∧ F_X12_orders fu x1 R = some (v, xset R 0 0 0) := by
  obtain ⟨lv, on, sn, ln, mn, tn, tl, kn, ⟨b1, b2, b3, b4, b5, b6, b7, b8, b9⟩, ⟨c1, c2, c3, c4, c5, c6, c7, c8⟩, ⟨r1, r2, r3, r4, r5, r6, r7, r8⟩⟩ := hN
  have hs : SV C (xset R 0 0 0) sn := ⟨b4, c3, r3, hP⟩
  unfold F_X11_orders F_X12_orders F_X0_waysToPull F_X0_isLet
  rw [row_eq (C := C) (R := xset R 0 0 0) b2 c1 r1, agC hs _ _ hfu, agR hs _ hfu, bcM, bcM]
  by_cases h1 : P_X0_isRow x1 C = 0
  · exact ⟨-1, by rw [if_pos h1]; rfl, by rw [if_pos h1]⟩
  rw [if_neg h1, if_neg h1]
  by_cases h2 : BC x1 ≤ 10
  · rw [if_pos h2, if_pos h2]
    simp only [Option.bind_some]
    by_cases h4 : agF (xset R 0 0 0) x1 0 sn = 0
    · rw [if_pos h4, if_pos h4]
      simp only [Option.bind_some]
      rw [if_neg (by decide)]
      obtain ⟨n, hn, en⟩ := bcn x1 (fun _ _ => 0)
      obtain ⟨v, e1, e2⟩ := or_loop' (C := C) (R := xset R 0 0 0) hn x1 (by rw [← bcM x1 (fun _ _ => 0)]; exact en) hfu
      rw [e1, e2]
      exact ⟨v, rfl, rfl⟩
    · rw [if_neg h4, if_neg h4]
      exact ⟨0, rfl, rfl⟩
  · rw [if_neg h2, if_neg h2]
    exact ⟨-1, rfl, rfl⟩
end RW
