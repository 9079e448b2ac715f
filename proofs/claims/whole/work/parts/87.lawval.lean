/-! What a TEXT is worth, told once for both sides -/
def C0 (N : Nat) (t : Nat → Nat) (B : Nat → Int32) : xM := fun a b => if a = 4 then (if b = 3 then nI N else 0) else if a = 20 then nI (t b) else if a = 21 then B b else 0
def R0 (t : Nat → Nat) (B : Nat → Int32) : xM := fun a b => if a = 8 then sb (t b) else if a = 10 then B (bidx b) else 0
def wf (fu N : Nat) (t : Nat → Nat) : Int32 := match F_X3_worth fu (C0 N t (fun _ => 0)) with
  | some q => q.2 4 0
  | none => 0
def wv (fu N : Nat) (t : Nat → Nat) (B : Nat → Int32) : Int32 := match F_X3_worth fu (C0 N t B) with
  | some q => q.1
  | none => 0
section LAWVAL
variable {C R : xM} {N : Nat} {t : Nat → Nat} {B : Nat → Int32} {r b n1 fu : Nat}
theorem C0_ct (hN : N ≤ 120) (ht : ∀ i, i < N → t i < 256) (B : Nat → Int32) : CT (C0 N t B) N t := ⟨hN, rfl, fun i hi => ⟨ht i hi, rfl⟩⟩
theorem R0_rx (hN : N ≤ 120) (ht : ∀ i, i < N → t i < 256) (B : Nat → Int32) : RX' (xset (xset (xset (R0 t B) 0 14 (nI 8)) 0 18 (nI 0)) 0 19 (nI N)) N t 8 0 480 :=
  ⟨hN, ht, by decide, by decide, rfl, by omega, by decide, rfl, rfl, rfl, fun i hi => by
    rw [Nat.zero_add]
    rfl⟩
theorem bidx_code : ∀ c, bk c → bidx c < 5 := fun c _ => bidx_lt c
theorem EB_c0 (hb : ∀ j, j < 5 → bnd (B j)) (h : ∀ j, j < 5 → C 21 j = B j) (hR : ∀ c, bk c → R 10 c = B (bidx c)) : EB C R := fun c hc => by
  have hl := bidx_lt c
  refine ⟨(h _ hl).trans (hR c hc).symm, ?_⟩
  rw [h _ hl]
  exact hb _ hl
theorem cls_ok (hfu : 70000 ≤ fu) (hC : CT C N t) : ∃ v M', F_X3_worth fu C = some (v, M') ∧ M' 4 0 = wf fu N t ∧ ∀ B, (∀ j, j < 5 → C 21 j = B j) → wf fu N t = -1 → (∀ j, j < 5 → bnd (B j)) → v = wv fu N t B := by
  have hN := hC.1
  have ht : ∀ i, i < N → t i < 256 := fun i hi => (hC.2.2 i hi).1
  have key : ∀ B, ∃ R', F_X12_goThrough fu 8 480 (nI 0) (nI N) (R0 t B) = some R' ∧ R' 0 21 = wf fu N t ∧ (wf fu N t = -1 → (∀ j, j < 5 → bnd (B j)) → R' 0 24 = wv fu N t B) := by
    intro B
    obtain ⟨v0, M0, R', a1, a2, a3, _⟩ := text_ok (C0_ct hN ht (fun _ => 0)) hfu (R0_rx hN ht B)
    obtain ⟨v1, M1, R1, b1, b2, b3, b4⟩ := text_ok (C0_ct hN ht B) hfu (R0_rx hN ht B)
    have e : R1 = R' := Option.some.inj (b2.symm.trans a2)
    subst e
    have ew : wf fu N t = M0 4 0 := by
      unfold wf
      rw [a1]
    have ev : wv fu N t B = v1 := by
      unfold wv
      rw [b1]
    refine ⟨R1, a2, ?_, fun h1 h2 => ?_⟩
    · rw [ew, a3]
    · rw [ev]
      refine (b4 ?_ (EB_c0 h2 (fun _ _ => rfl) (fun _ _ => rfl))).symm
      rw [b3, ← a3, ← ew, h1]
  obtain ⟨R', k1, k2, _⟩ := key (fun _ => 0)
  obtain ⟨v, M', R2, a1, a2, a3, _⟩ := text_ok hC hfu (R0_rx hN ht (fun _ => 0))
  have e : R2 = R' := Option.some.inj (a2.symm.trans k1)
  subst e
  refine ⟨v, M', a1, a3.trans k2, fun B hB h1 h2 => ?_⟩
  obtain ⟨R3, c1, c2, c3⟩ := key B
  obtain ⟨v', M2, R4, d1, d2, d3, d4⟩ := text_ok hC hfu (R0_rx hN ht B)
  have e : R4 = R3 := Option.some.inj (d2.symm.trans c1)
  subst e
  have e2 := Option.some.inj (d1.symm.trans a1)
  have e3 : v' = v := congrArg Prod.fst e2
  subst e3
  rw [d4 (by rw [d3, c2, h1]) (EB_c0 h2 hB (fun _ _ => rfl)), c3 h1 h2]
theorem ref_ok (hfu : 70000 ≤ fu) (hR : RX' (xset (xset (xset R 0 14 (nI r)) 0 18 (nI b)) 0 19 (nI N)) N t r b n1) : ∃ R', F_X12_goThrough fu r n1 (nI b) (nI N) R = some R' ∧ R' 0 21 = wf fu N t ∧ ∀ B, (∀ c, bk c → R 10 c = B (bidx c)) → wf fu N t = -1 → (∀ j, j < 5 → bnd (B j)) → R' 0 24 = wv fu N t B := by
  have hN := hR.1
  have ht := hR.2.1
  obtain ⟨v0, M0, R', a1, a2, a3, _⟩ := text_ok (C0_ct hN ht (fun _ => 0)) hfu hR
  have ew : wf fu N t = M0 4 0 := by
    unfold wf
    rw [a1]
  refine ⟨R', a2, by rw [ew, a3], fun B hB h1 h2 => ?_⟩
  obtain ⟨v1, M1, R1, b1, b2, b3, b4⟩ := text_ok (C0_ct hN ht B) hfu hR
  have e : R1 = R' := Option.some.inj (b2.symm.trans a2)
  subst e
  have ev : wv fu N t B = v1 := by
    unfold wv
    rw [b1]
  rw [ev]
  exact (b4 (by rw [b3, ← a3, ← ew, h1]) (EB_c0 h2 (fun _ _ => rfl) hB)).symm
theorem w_ext {t' : Nat → Nat} (hfu : 70000 ≤ fu) (hN : N ≤ 120) (ht : ∀ i, i < N → t i < 256) (h : ∀ i, i < N → t' i = t i) : wf fu N t' = wf fu N t ∧ (wf fu N t = -1 → ∀ B, (∀ j, j < 5 → bnd (B j)) → wv fu N t' B = wv fu N t B) := by
  have hC : ∀ B, CT (C0 N t' B) N t := fun B => ⟨hN, rfl, fun i hi => ⟨ht i hi, by
    rw [← h i hi]
    rfl⟩⟩
  have e1 : wf fu N t' = wf fu N t := by
    obtain ⟨v, M', a1, a2, _⟩ := cls_ok hfu (hC (fun _ => 0))
    rw [← a2]
    conv => lhs; unfold wf
    rw [a1]
  refine ⟨e1, fun h1 B hB => ?_⟩
  obtain ⟨v, M', a1, a2, a3⟩ := cls_ok hfu (hC B)
  rw [← a3 B (fun _ _ => rfl) h1 hB]
  conv => lhs; unfold wv
  rw [a1]
-- what is laid before the reader
theorem near_ok {N : Nat} (hN : N ≤ 120) {M : xM} : P_X1_nearest (nI N) 0 (Int32.ofNat 120) M = nI N := by
  have : ∀ n, n ≤ 120 → jmax 0 (jmin (Int32.ofNat 120) (nI n)) = nI n := by decide +kernel
  exact this N hN
theorem lay_ok (hr : r ≠ 20) (hr4 : r ≠ 4) (hN : N ≤ 120) (hb : b + N ≤ n1) (hn1 : n1 ≤ 1000) (hfu : 70000 ≤ fu) : ∃ C', F_X3_layText fu r n1 (nI b) (nI N) C = some C' ∧ C' 4 3 = nI N ∧ ∀ i, i < N → C' 20 i = C r (b + i) := by
  have loop : ∀ k i n M, i + k = N → k < n → M 4 3 = nI N → (∀ j, M r j = C r j) → (∀ j, j < i → M 20 j = C r (b + j)) → ∃ C', F_X3_layText_b17 fu r n1 (nI b) (nI N) n (nI i) M = some C' ∧ C' 4 3 = nI N ∧ ∀ i, i < N → C' 20 i = C r (b + i) := by
    intro k
    induction k with
    | zero =>
      intro i n M hi hn h1 h2 h3
      obtain ⟨n, rfl⟩ : ∃ z, n = z + 1 := ⟨n - 1, by omega⟩
      rw [F_X3_layText_b17, h1, if_pos (nI_le (by omega) (by omega))]
      exact ⟨M, rfl, h1, fun j hj => h3 j (by omega)⟩
    | succ k ih =>
      intro i n M hi hn h1 h2 h3
      obtain ⟨n, rfl⟩ : ∃ z, n = z + 1 := ⟨n - 1, by omega⟩
      rw [F_X3_layText_b17, h1, if_neg (show ¬ nI N ≤ nI i from nI_ge (by omega) (by omega)), nI_add, at_ok (show b + i < n1 by omega) (by omega), h2, put_ok (show i < 120 by omega) (by decide), add1]
      refine ih (i + 1) n _ (by omega) (by omega) h1 (fun j => ?_) (fun j hj => ?_)
      · rw [← h2 j]
        unfold xset
        rw [if_neg (fun z => hr z.1)]
      · by_cases e : j = i
        · subst e
          simp [xset]
        · simp [xset, e, h3 j (by omega)]
  unfold F_X3_layText
  rw [near_ok hN]
  refine loop N 0 fu _ (by omega) (by omega) (by simp [xset]) (fun j => ?_) (fun j hj => absurd hj (by omega))
  unfold xset
  rw [if_neg (fun z => hr4 z.1)]
theorem layB_ok (hb : b + 5 ≤ 30) (hfu : 70000 ≤ fu) : ∃ C', F_X3_layBooks fu 22 30 (nI b) C = some C' ∧ ∀ i, i < 5 → C' 21 i = C 22 (b + i) := by
  have loop : ∀ k i n M, i + k = 5 → k < n → (∀ j, M 22 j = C 22 j) → (∀ j, j < i → M 21 j = C 22 (b + j)) → ∃ C', F_X3_layBooks_b2 fu 22 30 (nI b) n (nI i) M = some C' ∧ ∀ i, i < 5 → C' 21 i = C 22 (b + i) := by
    intro k
    induction k with
    | zero =>
      intro i n M hi hn h2 h3
      obtain ⟨n, rfl⟩ : ∃ z, n = z + 1 := ⟨n - 1, by omega⟩
      obtain rfl : i = 5 := by omega
      rw [F_X3_layBooks_b2, if_pos (show Int32.ofNat 5 ≤ nI 5 by decide)]
      exact ⟨M, rfl, h3⟩
    | succ k ih =>
      intro i n M hi hn h2 h3
      obtain ⟨n, rfl⟩ : ∃ z, n = z + 1 := ⟨n - 1, by omega⟩
      rw [F_X3_layBooks_b2, if_neg (show ¬ Int32.ofNat 5 ≤ nI i from (nI_ge (by omega) (by omega) : ¬ nI 5 ≤ nI i)), nI_add, at_ok (show b + i < 30 by omega) (by omega), h2, put_ok (show i < 5 by omega) (by decide), add1]
      refine ih (i + 1) n _ (by omega) (by omega) (fun j => ?_) (fun j hj => ?_)
      · rw [← h2 j]
        rfl
      · by_cases e : j = i
        · subst e
          simp [xset]
        · simp [xset, e, h3 j (by omega)]
  exact loop 5 0 fu C (by omega) (by omega) (fun _ => rfl) (fun j hj => absurd hj (by omega))
theorem cpy_ok (hr : r ≠ 17) (hr2 : r ≠ 2) (hN : N ≤ 120) (hb : b + N ≤ n1) (hn1 : n1 ≤ 1000) (hL : C 2 1 = nI N) (hfu : 70000 ≤ fu) : ∃ C', F_X9_copyTo fu r n1 (nI b) C = some C' ∧ ∀ k, C' r k = if b ≤ k ∧ k < b + N then C 17 (k - b) else C r k := by
  have loop : ∀ k i n M, i + k = N → k < n → M 2 1 = nI N → (∀ j, M 17 j = C 17 j) → (∀ k, M r k = if b ≤ k ∧ k < b + i then C 17 (k - b) else C r k) → ∃ C', F_X9_copyTo_b2 fu r n1 (nI b) n (nI i) M = some C' ∧ ∀ k, C' r k = if b ≤ k ∧ k < b + N then C 17 (k - b) else C r k := by
    intro k
    induction k with
    | zero =>
      intro i n M hi hn h1 h2 h3
      obtain ⟨n, rfl⟩ : ∃ z, n = z + 1 := ⟨n - 1, by omega⟩
      obtain rfl : i = N := by omega
      rw [F_X9_copyTo_b2, h1, if_pos (nI_le (by omega) (by omega))]
      exact ⟨M, rfl, h3⟩
    | succ k ih =>
      intro i n M hi hn h1 h2 h3
      obtain ⟨n, rfl⟩ : ∃ z, n = z + 1 := ⟨n - 1, by omega⟩
      rw [F_X9_copyTo_b2, h1, if_neg (show ¬ nI N ≤ nI i from nI_ge (by omega) (by omega)), nI_add, at_ok (show i < 120 by omega) (by decide), h2, put_ok (show b + i < n1 by omega) (by omega), add1]
      refine ih (i + 1) n _ (by omega) (by omega) ?_ (fun j => ?_) (fun q => ?_)
      · rw [← h1]
        unfold xset
        rw [if_neg (fun z => hr2 z.1.symm)]
      · rw [← h2 j]
        unfold xset
        rw [if_neg (fun z => hr z.1.symm)]
      · by_cases e : q = b + i
        · subst e
          rw [if_pos ⟨by omega, by omega⟩, Nat.add_sub_cancel_left]
          simp [xset]
        · rw [show (xset M r (b + i) (C 17 i)) r q = M r q by simp [xset, e], h3 q]
          by_cases z : b ≤ q ∧ q < b + i
          · rw [if_pos z, if_pos ⟨z.1, by omega⟩]
          · rw [if_neg z, if_neg (fun y => z ⟨y.1, by omega⟩)]
  refine loop N 0 fu C (by omega) (by omega) hL (fun _ => rfl) (fun k => ?_)
  rw [if_neg (fun z => by omega)]
end LAWVAL
