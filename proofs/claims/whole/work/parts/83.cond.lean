/-! CONDITIONS on both sides -/
def WB (x : Int32) : Prop := x = 0 ∨ x = 1
def VB (C R : xM) (v w : Int32) : Prop := EB C R → v = w
def cmpv (c s v : Int32) : Int32 := if c = 61 then (if s = v then 1 else 0) else if c = 60 then (if v ≤ s then 0 else 1) else if s ≤ v then 0 else 1
def orv (x y : Int32) : Int32 := if x = 0 then (if y = 0 then 0 else 1) else 1
def andv (x y : Int32) : Int32 := if x = 0 then 0 else if y = 0 then 0 else 1
section CONDS
variable {C R : xM} {N : Nat} {t : Nat → Nat} {r b n1 : Nat} {fu d : Nat} {g1 g2 : Int32 → Int32 → Int32 → xM → Option (Int32 × xM)} {h1 k1 : xM → Option (Int32 × xM)} {h2 h3 k2 k3 : Int32 → Int32 → xM → Option (Int32 × xM)}
theorem nI_surj (x : Int32) : ∃ n, x = nI n := by
  refine ⟨x.toBitVec.toNat, ?_⟩
  apply Int32.toBitVec_inj.mp
  apply BitVec.eq_of_toNat_eq
  show _ = (BitVec.ofNat 32 _).toNat
  rw [BitVec.toNat_ofNat, Nat.mod_eq_of_lt x.toBitVec.isLt]
theorem cmpv_b (c s v : Int32) : WB (cmpv c s v) := by
  unfold cmpv
  split
  · split
    · exact Or.inr rfl
    · exact Or.inl rfl
  · split
    · split
      · exact Or.inl rfl
      · exact Or.inr rfl
    · split
      · exact Or.inl rfl
      · exact Or.inr rfl
theorem orv_b (x y : Int32) : WB (orv x y) := by
  unfold orv
  split
  · split
    · exact Or.inl rfl
    · exact Or.inr rfl
  · exact Or.inr rfl
theorem andv_b (x y : Int32) : WB (andv x y) := by
  unfold andv
  split
  · exact Or.inl rfl
  · split
    · exact Or.inl rfl
    · exact Or.inr rfl
theorem orv0 {y : Int32} (h : WB y) : orv 0 y = y := by
  rcases h with rfl | rfl <;> decide
theorem wb_or {x : Int32} (h : WB x) : x = 0 ∨ x = 1 := h
theorem cmp_fold (c s v : Int32) (M : xM) : (if c = 61 then (if s = v then some ((1 : Int32), M) else some ((0 : Int32), M)) else if c = 60 then (if v ≤ s then some ((0 : Int32), M) else some ((1 : Int32), M)) else if s ≤ v then some ((0 : Int32), M) else some ((1 : Int32), M)) = some (cmpv c s v, M) := by
  unfold cmpv
  by_cases a : c = 61
  · rw [if_pos a, if_pos a]
    by_cases e : s = v
    · rw [if_pos e, if_pos e]
    · rw [if_neg e, if_neg e]
  · rw [if_neg a, if_neg a]
    by_cases a2 : c = 60
    · rw [if_pos a2, if_pos a2]
      by_cases e : v ≤ s
      · rw [if_pos e, if_pos e]
      · rw [if_neg e, if_neg e]
    · rw [if_neg a2, if_neg a2]
      by_cases e : s ≤ v
      · rw [if_pos e, if_pos e]
      · rw [if_neg e, if_neg e]
theorem isCmp_in {x : Int32} {M : xM} (h : ¬ P_X3_isComparison x M = 0) : x = 61 ∨ x = 60 ∨ x = 62 := by
  unfold P_X3_isComparison at h
  by_cases a : x = 61
  · exact Or.inl a
  · rw [if_neg a] at h
    by_cases a2 : x = 60
    · exact Or.inr (Or.inl a2)
    · rw [if_neg a2] at h
      by_cases a3 : x = 62
      · exact Or.inr (Or.inr a3)
      · rw [if_neg a3] at h
        exact absurd rfl h
theorem isCmp_no {x : Int32} {M : xM} (h : noop x) : P_X3_isComparison x M = 0 := by
  unfold P_X3_isComparison
  rw [if_neg (show ¬ x = 61 from noop_ne h (c := 61) (by decide) (by decide)), if_neg (show ¬ x = 60 from noop_ne h (c := 60) (by decide) (by decide)), if_neg (show ¬ x = 62 from noop_ne h (c := 62) (by decide) (by decide))]
theorem cmp_ok (hC : CT C N t) (hR : RX' R N t r b n1) (hfu : 70000 ≤ fu) (hd : d ≤ 6) {p : Nat} (hp : p ≤ N) {s0 s1 : Int32} (hs : EB C R → s0 = s1) (x2 x3 y1 y2 : Int32) : Out C R N t WB (VB C R) d p (F_X3_unit_b95 fu g1 g2 (nI d) x2 x3 s0 (cst C p (-1))) (F_X12_compares_b12 fu y1 y2 s1 (rst R p (-1) d)) := by
  have hge := sk_ge (t := t) hp
  have hle := sk_le (t := t) hp
  have hN := hC.1
  unfold F_X3_unit_b95 F_X12_compares_b12
  rw [next_ok hC hfu hp, rst_21, if_pos rfl, look_ok hR hfu hp]
  simp only [Option.bind_some]
  refine Out.le (p := sk N t p) ?_ hge
  rw [show P_X12_isSign (chr N t (sk N t p)) (rst R (sk N t p) (-1) d) = P_X3_isComparison (chr N t (sk N t p)) (cst C (sk N t p) (-1)) from rfl]
  by_cases h : P_X3_isComparison (chr N t (sk N t p)) (cst C (sk N t p) (-1)) = 0
  · rw [if_pos h, if_pos h, stop_ok, fails_ok]
    simp only [Option.bind_some]
    rw [if_pos (by simp)]
    exact Or.inr ⟨0, _, 0, _, d, sk N t p, hle, rfl, Or.inl ⟨_, rfl⟩, rfl, Or.inl rfl, Or.inl rfl⟩
  · have hlt : sk N t p < N := by
      rcases isCmp_in h with e | e | e
      · exact chr_lt (c := 61) e (by decide)
      · exact chr_lt (c := 60) e (by decide)
      · exact chr_lt (c := 62) e (by decide)
    rw [if_neg h, if_neg h, cst_44, add1, cst_s4, rst_20, add1, rst_s20]
    rcases sumT hC hR hfu hd (show sk N t p + 1 ≤ N by omega) with ⟨v, w, q2, z1, z2, e1, e2, _, _, hV⟩ | ⟨v, M, w, q2, e', f, hf, e1, hB, e2, _, _⟩
    · rw [e1, e2]
      simp only [Option.bind_some, cmp_fold]
      exact Or.inl ⟨_, _, q2, by omega, z2, rfl, rfl, cmpv_b _ _ _, cmpv_b _ _ _, fun hE => by rw [hs hE, (hV hE).1]⟩
    · rw [e1, e2]
      simp only [Option.bind_some, cmp_fold]
      exact Or.inr ⟨_, M, _, q2, e', f, hf, rfl, hB, rfl, cmpv_b _ _ _, cmpv_b _ _ _⟩
theorem cmp_badC (hC : CT C N t) (hfu : 70000 ≤ fu) {f : Nat} (hf : f ≤ N) {M : xM} (h : Bd C N t f M) (x1 x2 x3 s0 : Int32) : ∃ p, F_X3_unit_b95 fu g1 g2 x1 x2 x3 s0 M = some (0, cst C p (nI f)) := by
  obtain ⟨x, hx, hn⟩ := bd_next hC hfu hf h
  obtain ⟨p, hp⟩ := bd_stop hf hC.1 h
  refine ⟨p, ?_⟩
  unfold F_X3_unit_b95
  rw [hn]
  simp only [Option.bind_some]
  rw [if_pos (isCmp_no hx), hp]
  rfl
theorem cmp_badR {p f : Nat} (hf : f ≤ 120) (y1 y2 s1 : Int32) : F_X12_compares_b12 fu y1 y2 s1 (rst R p (nI f) d) = some (0, rst R p (nI f) d) := by
  unfold F_X12_compares_b12
  rw [rst_21, if_neg (nIm1 (by omega))]
theorem b82_bad (hC : CT C N t) (hfu : 70000 ≤ fu) {p f : Nat} (hf : f ≤ N) (x1 x3 : Int32) : ∃ q, F_X3_unit_b82 fu g1 g2 x1 0 x3 (cst C p (nI f)) = some (0, cst C q (nI f)) := by
  obtain ⟨v, hv⟩ := sumT_bad hC hfu hf x1 (p := p)
  obtain ⟨q, hq⟩ := cmp_badC (g1 := g1) (g2 := g2) hC hfu hf (Or.inl ⟨p, rfl⟩) x1 0 x3 v
  refine ⟨q, ?_⟩
  unfold F_X3_unit_b82
  rw [if_pos rfl, hv]
  exact hq
theorem b82_ok (hC : CT C N t) (hR : RX' R N t r b n1) (hfu : 70000 ≤ fu) (hd : d ≤ 6) {p : Nat} (hp : p ≤ N) (x3 y2 : Int32) : Out C R N t WB (VB C R) d p (F_X3_unit_b82 fu g1 g2 (nI d) 0 x3 (cst C p (-1))) (F_X12_compares fu 0 y2 (rst R p (-1) d)) := by
  unfold F_X3_unit_b82 F_X12_compares
  rw [if_pos rfl, if_pos rfl]
  have hN := hC.1
  rcases sumT hC hR hfu hd hp with ⟨v, w, q2, z1, z2, e1, e2, _, _, hV⟩ | ⟨v, M, w, q2, e', f, hf, e1, hB, e2, _, _⟩
  · rw [e1, e2]
    simp only [Option.bind_some]
    exact (cmp_ok (g1 := g1) (g2 := g2) hC hR hfu hd z2 (fun hE => (hV hE).1) 0 x3 0 y2).le z1
  · rw [e1, e2]
    simp only [Option.bind_some]
    obtain ⟨q, hq⟩ := cmp_badC (g1 := g1) (g2 := g2) hC hfu hf hB (nI d) 0 x3 v
    rw [hq, cmp_badR (by omega)]
    exact Or.inr ⟨0, _, 0, q2, e', f, hf, rfl, Or.inl ⟨q, rfl⟩, rfl, Or.inl rfl, Or.inl rfl⟩
theorem unit1_ok (hC : CT C N t) (hR : RX' R N t r b n1) (hfu : 70000 ≤ fu) (hd : d ≤ 6) {p : Nat} (hp : p ≤ N) {s0 s1 : Int32} (hs : EB C R → s0 = s1) : Out C R N t WB (VB C R) d p (F_X3_unit fu g1 g2 (nI d) 1 s0 (cst C p (-1))) (F_X12_compares fu 1 s1 (rst R p (-1) d)) := by
  unfold F_X3_unit F_X3_unit_b12 F_X3_unit_b47 F_X3_unit_b82 F_X12_compares
  simp only [if_neg (show ¬ ((1 : Int32) = 0) by decide), if_neg (show ¬ ((-1 : Int32) = 33) by decide), if_neg (show ¬ ((-1 : Int32) = 40) by decide)]
  exact cmp_ok (g1 := g1) (g2 := g2) hC hR hfu hd hp hs 1 s0 1 s1
theorem Out.bool {p : Nat} {x y : Option (Int32 × xM)} (h : Out C R N t WB (VB C R) d p x y) : Out C R N t WB (VB C R) d p x (y.bind fun q => if q.1 = 0 ∨ q.1 = 1 then some (q.1, q.2) else none) := by
  rcases h with ⟨v, w, q, z1, z2, e1, e2, h1, h2, h3⟩ | ⟨v, M, w, q, e', f, hf, e1, hB, e2, h1, h2⟩
  · rw [e2]
    simp only [Option.bind_some]
    rw [if_pos (wb_or h2)]
    exact Or.inl ⟨v, w, q, z1, z2, e1, rfl, h1, h2, h3⟩
  · rw [e2]
    simp only [Option.bind_some]
    rw [if_pos (wb_or h2)]
    exact Or.inr ⟨v, M, w, q, e', f, hf, e1, hB, rfl, h1, h2⟩
theorem unit_ok (hC : CT C N t) (hR : RX' R N t r b n1) (hfu : 70000 ≤ fu) (hd6 : d ≤ 6) (hU : d < 6 → ∀ p, p ≤ N → Out C R N t WB (VB C R) (d + 1) p (g2 (nI (d + 1)) 0 0 (cst C p (-1))) (h1 (rst R p (-1) (d + 1)))) (hCn : d < 6 → ∀ p, p ≤ N → Out C R N t WB (VB C R) (d + 1) p (g1 (nI (d + 1)) 0 0 (cst C p (-1))) (h3 0 0 (rst R p (-1) (d + 1)))) {p : Nat} (hp : p ≤ N) : Out C R N t WB (VB C R) d p (F_X3_unit fu g1 g2 (nI d) 0 0 (cst C p (-1))) (F_X12_unit fu h1 h2 h3 (rst R p (-1) d)) := by
  have hN := hC.1
  have hge := sk_ge (t := t) hp
  have hq := sk_le (t := t) hp
  unfold F_X3_unit F_X12_unit
  rw [if_pos rfl, next_ok hC hfu hp, look_ok hR hfu hp]
  simp only [Option.bind_some]
  generalize sk N t p = q at hq hge ⊢
  refine Out.le (p := q) ?_ hge
  unfold F_X3_unit_b12 F_X3_unit_b47
  have deep : ∀ x3, ¬ d < 6 → ∃ p', F_X3_goesDeeper (nI d) (cst C q (-1)) = some (0, cst C q (nI q)) ∧ F_X12_goesIn (rst R q (-1) d) = some (0, rst R q (nI q) d) ∧ F_X3_unit_b82 fu g1 g2 (nI d) 0 x3 (cst C q (nI q)) = some (0, cst C p' (nI q)) := by
    intro x3 hd
    obtain rfl : d = 6 := by omega
    obtain ⟨p', hp'⟩ := b82_bad (g1 := g1) (g2 := g2) hC hfu hq (nI 6) x3 (p := q)
    refine ⟨p', ?_, ?_, hp'⟩
    · unfold F_X3_goesDeeper
      rw [if_neg (show ¬ nI 6 < 6 by decide), stop_ok]
      rfl
    · unfold F_X12_goesIn
      rw [rst_22, if_pos (show nI 6 = 6 by decide), fails_ok]
      simp only [Option.bind_some]
      rw [if_pos (by simp)]
  have shallow : d < 6 → F_X3_goesDeeper (nI d) (cst C q (-1)) = some (1, cst C (q + 1) (-1)) ∧ F_X12_goesIn (rst R q (-1) d) = some (1, rst R (q + 1) (-1) (d + 1)) := by
    intro hd
    constructor
    · unfold F_X3_goesDeeper
      rw [if_pos (show nI d < 6 from (nI_ltI (b := 6) (by omega) (by decide)).mpr hd), cst_44, add1, cst_s4]
    · unfold F_X12_goesIn
      rw [rst_22, if_neg (show ¬ nI d = 6 from fun z => by have := (nI_eq (a := d) (b := 6) (by omega) (by decide)).mp z; omega), add1, rst_s22, rst_20, add1, rst_s20]
  by_cases e33 : chr N t q = 33
  · have hlt : q < N := chr_lt (c := 33) e33 (by decide)
    rw [if_pos e33, if_pos e33]
    by_cases hd : d < 6
    · obtain ⟨s1, s2⟩ := shallow hd
      rw [s1, s2]
      simp only [Option.bind_some, add1]
      rw [if_neg (show ¬ ((1 : Int32) = 0) by decide), if_neg (show ¬ ((1 : Int32) = 0) by decide)]
      have fold : ∀ (v : Int32) (M : xM), (if v = 0 then some ((1 : Int32), M) else some ((0 : Int32), M)) = some (if v = 0 then 1 else 0, M) := fun v M => by
        by_cases z : v = 0
        · rw [if_pos z, if_pos z]
        · rw [if_neg z, if_neg z]
      have wb : ∀ v : Int32, WB (if v = 0 then 1 else 0) := fun v => by
        by_cases z : v = 0
        · rw [if_pos z]
          exact Or.inr rfl
        · rw [if_neg z]
          exact Or.inl rfl
      rcases hU hd (q + 1) (by omega) with ⟨v, w, q2, z1, z2, e1, e2, _, _, hV⟩ | ⟨v, M, w, q2, e', f, hf, e1, hB, e2, _, _⟩
      · rw [e1, e2]
        simp only [Option.bind_some, fold]
        rw [rst_22, sub1 (show 1 ≤ d + 1 by omega), Nat.add_sub_cancel, rst_s22]
        exact Or.inl ⟨_, _, q2, by omega, z2, rfl, rfl, wb _, wb _, fun hE => by rw [hV hE]⟩
      · rw [e1, e2]
        simp only [Option.bind_some, fold]
        obtain ⟨e'', he⟩ := nI_surj (nI e' - 1)
        rw [rst_22, he, rst_s22]
        exact Or.inr ⟨_, M, _, q2, e'', f, hf, rfl, hB, rfl, wb _, wb _⟩
    · obtain ⟨p', s1, s2, s3⟩ := deep 0 hd
      rw [s1, s2]
      simp only [Option.bind_some, if_true]
      rw [if_neg (show ¬ chr N t q = 40 by rw [e33]; decide), s3]
      exact Or.inr ⟨0, _, 0, q, d, q, hq, rfl, Or.inl ⟨p', rfl⟩, rfl, Or.inl rfl, Or.inl rfl⟩
  rw [if_neg e33, if_neg e33]
  by_cases e40 : chr N t q = 40
  · have hlt : q < N := chr_lt (c := 40) e40 (by decide)
    rw [if_pos e40, if_pos e40]
    by_cases hd : d < 6
    · obtain ⟨s1, s2⟩ := shallow hd
      rw [s1, s2]
      simp only [Option.bind_some, add1]
      rw [if_neg (show ¬ ((1 : Int32) = 0) by decide), if_neg (show ¬ ((1 : Int32) = 0) by decide), show (41 : Int32) = nI 41 from rfl]
      rcases hCn hd (q + 1) (by omega) with ⟨v, w, q2, z1, z2, e1, e2, hv, hw, hV⟩ | ⟨v, M, w, q2, e', f, hf, e1, hB, e2, hv, hw⟩
      · have hs1 := sk_le (t := t) z2
        have hs2 := sk_ge (t := t) z2
        rw [e1, e2]
        simp only [Option.bind_some]
        rw [expect_ok hC hfu z2, takes_ok hR hfu z2]
        simp only [Option.bind_some]
        rw [if_pos (wb_or hv)]
        by_cases hx : chr N t (sk N t q2) = nI 41
        · have := chr_lt hx (by decide)
          rw [if_pos hx, if_pos hx]
          simp only
          rw [if_neg (show ¬ ((1 : Int32) = 0) by decide), if_pos (wb_or hw), rst_22, sub1 (show 1 ≤ d + 1 by omega), Nat.add_sub_cancel, rst_s22]
          exact Or.inl ⟨v, w, sk N t q2 + 1, by omega, by omega, rfl, rfl, hv, hw, hV⟩
        · rw [if_neg hx, if_neg hx]
          simp only [if_true]
          exact Or.inr ⟨v, _, 0, _, d + 1, sk N t q2, hs1, rfl, Or.inl ⟨_, rfl⟩, rfl, hv, Or.inl rfl⟩
      · obtain ⟨p2, hp2⟩ := bd_expect hC hfu hf hB (c := 41) (by decide) (by decide)
        rw [e1, e2]
        simp only [Option.bind_some]
        rw [hp2, takes_bad (by omega)]
        simp only [Option.bind_some, if_true]
        rw [if_pos (wb_or hv)]
        exact Or.inr ⟨v, _, 0, q2, e', f, hf, rfl, Or.inl ⟨p2, rfl⟩, rfl, hv, Or.inl rfl⟩
    · obtain ⟨p', s1, s2, s3⟩ := deep 0 hd
      rw [s1, s2]
      simp only [Option.bind_some, if_true]
      rw [s3]
      exact Or.inr ⟨0, _, 0, q, d, q, hq, rfl, Or.inl ⟨p', rfl⟩, rfl, Or.inl rfl, Or.inl rfl⟩
  · rw [if_neg e40, if_neg e40]
    exact (b82_ok hC hR hfu hd6 hq 0 0).bool
end CONDS
