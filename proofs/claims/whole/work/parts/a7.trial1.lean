/-! TESTS: what moves, and what a counter SHOWS behind a TEST -/
def RZ (C R : xM) : Prop := ∃ on : Nat, on ≤ 6 ∧ C 1 1 = nI on ∧ ∀ o, on ≤ o → o < 6 → C 11 o = 0
abbrev RZc : List (Nat × Option Nat) := [(1, some 1), (11, none)]
abbrev RZr : List (Nat × Option Nat) := []
theorem RZ_m (C R : xM) : RZ (msk RZc C) (msk RZr R) ↔ RZ C R := Iff.rfl
/-- STRAPS that are off where the LEVERS of some are free -/
def fre (R : xM) (p : aS) (on : Nat) (k : Nat) : Bool := anyB (fun o => p.2.2.2.2 o && decide (R 4 k &&& (R 1 o ^^^ (-1)) = 0)) on
def letP (R : xM) (p : aS) (on sn : Nat) (x : Int32) : Bool := allB (fun k => fre R p on k || decide (BC (x &&& R 4 k) ≤ R 5 k)) sn
def a0S : aS := (fun j => j, fun _ => 0, fun _ => 1000, fun _ => false, fun _ => false)
section TRIAL1
variable {R C : xM} {m lv on mn sn fu : Nat}
theorem RZ_office (x1 x2 : Int32) (h : RZ C R) {v : Int32} {C' R' : xM} (e : F_X11_office x1 x2 C = some (v, C')) : RZ C' R' := by
  obtain ⟨on, ho, h11, hz⟩ := h
  unfold F_X11_office F_X0_addOffice at e
  have stay : ∀ {o : Option (Int32 × xM)}, o = some (-1, C) → (o.bind fun q1 => some (q1.1, q1.2)) = some (v, C') → RZ C' R' := by
    intro o ho' e
    subst ho'
    cases e
    exact ⟨on, ho, h11, hz⟩
  by_cases h1 : P_X0_isRow x1 C = 0
  · exact stay (by rw [if_pos h1]) e
  by_cases h2 : x1 = 0
  · exact stay (by rw [if_neg h1, if_pos h2]) e
  by_cases h3 : x1 &&& C 1 7 = 0
  rotate_left
  · exact stay (by rw [if_neg h1, if_neg h2, if_neg h3]) e
  by_cases h4 : C 1 1 < 6
  rotate_left
  · exact stay (by rw [if_neg h1, if_neg h2, if_pos h3, if_neg h4]) e
  by_cases h5 : P_X1_within x2 1 (P_J6_bitCount_0f7a4 x1 C) C = 0
  · exact stay (by rw [if_neg h1, if_neg h2, if_pos h3, if_pos h4, if_pos h5]) e
  have ho6 : on < 6 := by
    rw [h11] at h4
    exact (nI_ltI (b := 6) (by omega) (by decide)).mp h4
  rw [if_neg h1, if_neg h2, if_pos h3, if_pos h4, if_neg h5, h11, put_ok ho6 (by decide)] at e
  simp only [Option.bind_some] at e
  rw [show (xset C 11 on x1) 1 1 = nI on from h11, put_ok ho6 (by decide)] at e
  simp only [Option.bind_some] at e
  cases e
  refine ⟨on + 1, by omega, ?_, fun o h1 h2 => ?_⟩
  · have : ∀ (M : xM) v, (xset M 1 1 v) 1 1 = v := fun M v => by simp [xset]
    rw [this]
    rw [show ∀ (M : xM) v w, (xset (xset M 1 7 v) 1 8 w) 1 1 = M 1 1 from fun _ _ _ => rfl, show (xset (xset C 11 on x1) 12 on x2) 1 1 = nI on from h11, add1]
  · have e2 : ¬ o = on := by omega
    show (xset (xset C 11 on x1) 12 on x2) 11 o = 0
    rw [show (xset (xset C 11 on x1) 12 on x2) 11 o = (xset C 11 on x1) 11 o from rfl]
    unfold xset
    rw [if_neg (fun z => e2 z.2)]
    exact hz o (by omega) h2
theorem agF_bit (R : xM) (x f : Int32) : ∀ n, n ≤ 10 → ∀ p, p < 32 → tb (agF R x f n) p = decide (p < n ∧ ¬ (R 4 p &&& (f ^^^ (-1)) = 0) ∧ ¬ BC (x &&& R 4 p) ≤ R 5 p) := by
  intro n
  induction n with
  | zero =>
    intro _ p _
    rw [agF, tb_0, decide_eq_false (fun z => by omega)]
  | succ n ih =>
    intro hn p hp
    have I := ih (by omega) p hp
    rw [agF]
    by_cases h1 : R 4 n &&& (f ^^^ (-1)) = 0
    · rw [if_pos h1, I, decide_eq_decide]
      constructor
      · exact fun z => ⟨by omega, z.2⟩
      · intro z
        refine ⟨?_, z.2⟩
        have : ¬ p = n := fun e => z.2.1 (e ▸ h1)
        omega
    · rw [if_neg h1]
      by_cases h2 : BC (x &&& R 4 n) ≤ R 5 n
      · rw [if_pos h2, I, decide_eq_decide]
        constructor
        · exact fun z => ⟨by omega, z.2⟩
        · intro z
          refine ⟨?_, z.2⟩
          have : ¬ p = n := fun e => z.2.2 (e ▸ h2)
          omega
      · rw [if_neg h2, tb_or1 _ (by omega) hp, I]
        by_cases e : p = n
        · subst e
          rw [decide_eq_true (show p = p from rfl), Bool.or_true, decide_eq_true ⟨Nat.lt_succ_self p, h1, h2⟩]
        · rw [decide_eq_false e, Bool.or_false, decide_eq_decide]
          constructor
          · exact fun z => ⟨by omega, z.2⟩
          · exact fun z => ⟨by omega, z.2⟩
theorem agF_0 (R : xM) (x f : Int32) (hn : sn ≤ 10) : (agF R x f sn = 0) ↔ ∀ k, k < sn → (R 4 k &&& (f ^^^ (-1)) = 0) ∨ BC (x &&& R 4 k) ≤ R 5 k := by
  constructor
  · intro h k hk
    have := agF_bit R x f sn hn k (by omega)
    rw [h, tb_0] at this
    have h2 := of_decide_eq_false this.symm
    by_cases z : R 4 k &&& (f ^^^ (-1)) = 0
    · exact Or.inl z
    · by_cases z2 : BC (x &&& R 4 k) ≤ R 5 k
      · exact Or.inr z2
      · exact absurd ⟨hk, z, z2⟩ h2
  · intro h
    apply tb_ext
    intro p hp
    rw [tb_0, agF_bit R x f sn hn p hp]
    refine decide_eq_false fun z => ?_
    rcases h p z.1 with y | y
    · exact z.2.1 y
    · exact z.2.2 y
theorem letP_iff {p : aS} {x : Int32} : letP R p on sn x = true ↔ ∀ k, k < sn → fre R p on k = true ∨ BC (x &&& R 4 k) ≤ R 5 k := by
  constructor
  · intro h k hk
    have := allB_at (f := fun k => fre R p on k || decide (BC (x &&& R 4 k) ≤ R 5 k)) h k hk
    simpa using this
  · intro h
    have : ∀ n, n ≤ sn → allB (fun k => fre R p on k || decide (BC (x &&& R 4 k) ≤ R 5 k)) n = true := by
      intro n
      induction n with
      | zero => exact fun _ => rfl
      | succ n ih =>
        intro hn
        rw [allB, ih (by omega), Bool.true_and]
        simpa using h n (by omega)
    exact this sn (Nat.le_refl _)
/-- what the reference reads of STRAPS and OFFICES -/
def SP' (C R S : xM) (p : aS) (on sn : Nat) : Prop := SV C R sn ∧ S 0 8 = nI sn ∧ S 0 7 = nI on ∧ on ≤ 6 ∧ (∀ j, S 4 j = R 4 j) ∧ (∀ j, S 5 j = R 5 j) ∧ (∀ j, S 1 j = R 1 j) ∧ ∀ o, o < 6 → tb (S 0 42) o = p.2.2.2.2 o
theorem ln_ok {S : xM} {p : aS} (hfu : 70000 ≤ fu) (h : SP' C R S p on sn) (x : Int32) : F_X12_isLetNow fu x S = some (b2i (letP R p on sn x), S) := by
  obtain ⟨⟨h1, h2, h3, hP⟩, s8, s7, hon, s4, s5, s1, s42⟩ := h
  have hSV : SV C S sn := ⟨h1, h2, s8, ⟨fun t ht => by rw [s4, s5]; exact hP.1 t ht, fun t ht => by rw [s4]; exact hP.2.1 t ht, fun t ht => by rw [s5]; exact hP.2.2 t ht⟩⟩
  have ag := agR hSV x hfu
  have ef : agF S x 0 sn = agF R x 0 sn := agF_fr s4 s5 x 0 sn
  rw [ef] at ag
  have hagb : ∀ k, k < sn → P_X12_has (agF R x 0 sn) (nI k) S = b2i (!decide (BC (x &&& R 4 k) ≤ R 5 k)) := fun k hk => by
    rw [has12_tb (by omega), agF_bit R x 0 sn h1 k (by omega)]
    have f0' : (0 : Int32) ^^^ (-1) = -1 := by decide
    rw [f0', andm1]
    by_cases z : BC (x &&& R 4 k) ≤ R 5 k
    · rw [decide_eq_false (fun y => y.2.2 z), decide_eq_true z]
      rfl
    · have z2 : ¬ R 4 k = 0 := by
        intro e
        apply z
        obtain ⟨a, ha, ea⟩ := hP.2.2 k (by omega)
        rw [e, and0', bc0, ea]
        exact (show nI 0 ≤ nI a from nI_le (Nat.zero_le _) (by omega))
      rw [decide_eq_true ⟨hk, z2, z⟩, decide_eq_false z]
      rfl
  have inner : ∀ (K : Int32 → xM → Option (Int32 × xM)) (k : Nat), k < sn → ∀ q o n, o + q = on → q < n → F_X12_isLetNow_b15 fu x K n (nI k) (b2i (anyB (fun o => p.2.2.2.2 o && decide (R 4 k &&& (R 1 o ^^^ (-1)) = 0)) o)) (nI o) S = if (fre R p on k || decide (BC (x &&& R 4 k) ≤ R 5 k)) = true then K (nI (k + 1)) S else some (0, S) := by
    intro K k hk q
    induction q with
    | zero =>
      intro o n ho hn
      obtain ⟨n, rfl⟩ : ∃ z, n = z + 1 := ⟨n - 1, by omega⟩
      obtain rfl : o = on := by omega
      rw [F_X12_isLetNow_b15, s7, if_pos (nI_le (Nat.le_refl _) (by omega)), ag]
      simp only [Option.bind_some, F_X12_isLetNow_b89, add1, hagb k hk]
      rw [show anyB (fun o => p.2.2.2.2 o && decide (R 4 k &&& (R 1 o ^^^ (-1)) = 0)) o = fre R p o k from rfl]
      cases fre R p o k with
      | true => rw [if_neg (show ¬ b2i true = 0 by decide), Bool.true_or, if_pos rfl]
      | false =>
        rw [if_pos (show b2i false = 0 from rfl), Bool.false_or]
        by_cases z : BC (x &&& R 4 k) ≤ R 5 k
        · rw [decide_eq_true z, if_pos (show b2i (!true) = 0 from rfl), if_pos rfl]
        · rw [decide_eq_false z, if_neg (show ¬ b2i (!false) = 0 by decide), if_neg (by decide)]
    | succ q ih =>
      intro o n ho hn
      obtain ⟨n, rfl⟩ : ∃ z, n = z + 1 := ⟨n - 1, by omega⟩
      have I := ih (o + 1) n (by omega) (by omega)
      rw [anyB] at I
      rw [F_X12_isLetNow_b15, s7, if_neg (show ¬ nI on ≤ nI o from nI_ge (by omega) (by omega)), has12_tb (show o < 32 by omega), s42 o (by omega), if_neg (idx_no (show k < 10 by omega) (by decide)), if_neg (idx_no (show o < 6 by omega) (by decide)), nI_clamp (by omega), nI_clamp (by omega), s4, s1]
      simp only [F_X12_isLetNow_b59, F_X12_isLetNow_b63, F_X12_isLetNow_b64, add1]
      cases ha : anyB (fun o => p.2.2.2.2 o && decide (R 4 k &&& (R 1 o ^^^ (-1)) = 0)) o with
      | true =>
        rw [ha, Bool.true_or] at I
        rw [if_neg (show ¬ b2i true = 0 by decide)]
        exact I
      | false =>
        rw [ha, Bool.false_or] at I
        rw [if_pos (show b2i false = 0 from rfl)]
        cases hf : p.2.2.2.2 o with
        | false =>
          rw [hf, Bool.false_and] at I
          rw [if_neg (show ¬ (false = true) by decide), if_pos rfl]
          exact I
        | true =>
          rw [hf, Bool.true_and] at I
          rw [if_pos rfl, if_neg (show ¬ ((1 : Int32) = 0) by decide)]
          by_cases z : R 4 k &&& (R 1 o ^^^ (-1)) = 0
          · rw [decide_eq_true z] at I
            rw [if_pos z]
            exact I
          · rw [decide_eq_false z] at I
            rw [if_neg z]
            exact I
  have loop : ∀ q k n, k + q = sn → q < n → allB (fun k => fre R p on k || decide (BC (x &&& R 4 k) ≤ R 5 k)) k = true → F_X12_isLetNow_b2 fu x n (nI k) S = some (b2i (letP R p on sn x), S) := by
    intro q
    induction q with
    | zero =>
      intro k n hk hn hB
      obtain ⟨n, rfl⟩ : ∃ z, n = z + 1 := ⟨n - 1, by omega⟩
      obtain rfl : k = sn := by omega
      rw [F_X12_isLetNow_b2, s8, if_pos (nI_le (Nat.le_refl _) (by omega)), show letP R p on k x = true from hB]
      rfl
    | succ q ih =>
      intro k n hk hn hB
      obtain ⟨n, rfl⟩ : ∃ z, n = z + 1 := ⟨n - 1, by omega⟩
      rw [F_X12_isLetNow_b2, s8, if_neg (show ¬ nI sn ≤ nI k from nI_ge (by omega) (by omega)), show F_X12_isLetNow_b15 fu x (F_X12_isLetNow_b2 fu x n) fu (nI k) 0 0 S = _ from inner (F_X12_isLetNow_b2 fu x n) k (by omega) on 0 fu (by omega) (by omega)]
      cases hc : (fre R p on k || decide (BC (x &&& R 4 k) ≤ R 5 k)) with
      | true =>
        rw [if_pos rfl]
        exact ih (k + 1) n (by omega) (by omega) (by rw [allB, hB, Bool.true_and]; exact hc)
      | false =>
        rw [if_neg (by decide), show letP R p on sn x = false from allB_no (f := fun k => fre R p on k || decide (BC (x &&& R 4 k) ≤ R 5 k)) hc (show k < sn by omega)]
        rfl
  exact loop sn 0 fu (by omega) (by omega) rfl
end TRIAL1
