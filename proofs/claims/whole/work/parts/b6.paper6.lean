/-! papers: what is written for a name, who is elected -/
section ELE
variable {C R M : xM} {fu kn lim : Nat}
theorem wr0 (hfu : 70000 ≤ fu) (hK : RMk kn C R) (hl : lim ≤ 8) (c91 : C 9 1 = nI lim) (r59 : R 0 59 = nI lim) {n : Nat} (hn : n < kn) : ∃ b, b ≤ 30 ∧ F_X6_sureFor fu (nI n) C = some (nI b, C) ∧ ∀ M, PS R M → ∃ M', F_X12_written fu (nI n) 0 M = some (nI b, M') ∧ PS R M' := by
  have loop : ∀ k p n1 a, p + k = 30 → k < n1 → a ≤ p → ∃ b, b ≤ 30 ∧ F_X6_sureFor_b4 fu (nI n) n1 (nI a) (nI p) C = some (nI b, C) ∧ ∀ M n2, k < n2 → PS R M → ∃ M', F_X12_written_b5 fu (nI n) 0 n2 (nI a) (nI p) M = some (nI b, M') ∧ PS R M' := by
    intro k
    induction k with
    | zero =>
      intro p n1 a hk hn1 ha
      obtain ⟨n1, rfl⟩ : ∃ z, n1 = z + 1 := ⟨n1 - 1, by omega⟩
      obtain rfl : p = 30 := by omega
      refine ⟨a, ha, ?_, fun M n2 hn2 hP => ⟨M, ?_, hP⟩⟩
      · rw [F_X6_sureFor_b4, if_pos (by decide)]
      · obtain ⟨n2, rfl⟩ : ∃ z, n2 = z + 1 := ⟨n2 - 1, by omega⟩
        rw [F_X12_written_b5, if_pos (by decide)]
    | succ k ih =>
      intro p n1 a hk hn1 ha
      obtain ⟨n1, rfl⟩ : ∃ z, n1 = z + 1 := ⟨n1 - 1, by omega⟩
      have hp : p < 30 := by omega
      have n30 : ¬ (30 : Int32) ≤ nI p := nI_ge (b := 30) (by omega) (by decide)
      obtain ⟨v, h1, -, h3⟩ := ag_ok hfu hK hl c91 r59 hp
      have body : ∀ M n2, PS R M → ∃ M1, PS R M1 ∧ F_X12_written_b5 fu (nI n) 0 (n2 + 1) (nI a) (nI p) M = if v = nI n then F_X12_written_b5 fu (nI n) 0 n2 (nI (a + 1)) (nI (p + 1)) M1 else F_X12_written_b5 fu (nI n) 0 n2 (nI a) (nI (p + 1)) M1 := by
        intro M n2 hP
        obtain ⟨M1, e1, hP1⟩ := h3 M hP
        refine ⟨M1, hP1, ?_⟩
        obtain ⟨f', rfl⟩ : ∃ z, fu = z + 1 := ⟨fu - 1, by omega⟩
        rw [F_X12_written_b5, if_neg n30, F_X12_written_b18, if_neg (show ¬ (4 : Int32) ≤ 0 by decide), if_neg (show ¬ (0 : Int32) = 1 by decide), F_X12_written_b77, if_pos rfl, e1]
        simp only [Option.bind_some, F_X12_written_b100, F_X12_written_b104, F_X12_written_b105, add1]
        split
        · rfl
        · exact congrArg (fun z => F_X12_written_b5 (f' + 1) (nI n) 0 n2 z (nI (p + 1)) M1) (nI_add a 0)
      by_cases g : v = nI n
      · obtain ⟨b, hb, I1, I2⟩ := ih (p + 1) n1 (a + 1) (by omega) (by omega) (by omega)
        refine ⟨b, hb, ?_, fun M n2 hn2 hP => ?_⟩
        · rw [F_X6_sureFor_b4, if_neg n30, h1]
          simp only [Option.bind_some, F_X6_sureFor_b22, add1]
          rw [if_pos g]
          exact I1
        · obtain ⟨n2, rfl⟩ : ∃ z, n2 = z + 1 := ⟨n2 - 1, by omega⟩
          obtain ⟨M1, hP1, e⟩ := body M n2 hP
          rw [e, if_pos g]
          exact I2 M1 n2 (by omega) hP1
      · obtain ⟨b, hb, I1, I2⟩ := ih (p + 1) n1 a (by omega) (by omega) (by omega)
        refine ⟨b, hb, ?_, fun M n2 hn2 hP => ?_⟩
        · rw [F_X6_sureFor_b4, if_neg n30, h1]
          simp only [Option.bind_some, F_X6_sureFor_b22, add1]
          rw [if_neg g]
          exact I1
        · obtain ⟨n2, rfl⟩ : ∃ z, n2 = z + 1 := ⟨n2 - 1, by omega⟩
          obtain ⟨M1, hP1, e⟩ := body M n2 hP
          rw [e, if_neg g]
          exact I2 M1 n2 (by omega) hP1
  obtain ⟨b, hb, h1, h2⟩ := loop 30 0 fu 0 (by omega) (by omega) (Nat.le_refl _)
  exact ⟨b, hb, h1, fun M hP => h2 M fu (by omega) hP⟩
theorem mb_ok (hfu : 70000 ≤ fu) (hK : RMk kn C R) (hl : lim ≤ 8) (c91 : C 9 1 = nI lim) (r59 : R 0 59 = nI lim) {n p : Nat} (hn : n < kn) (hp : p < 30) : ∃ v : Int32, (v = 0 ∨ v = 1) ∧ F_X6_mayBeFor fu (nI p) (nI n) C = some (v, C) ∧ ∀ M a (k5 : Int32 → Int32 → xM → Option (Int32 × xM)), PS R M → ∃ M', PS R M' ∧ F_X12_written_b18 fu (nI n) 1 k5 fu (nI a) (nI p) 0 0 M = if v = 0 then k5 (nI a) (nI (p + 1)) M' else k5 (nI (a + 1)) (nI (p + 1)) M' := by
  have hk8 := hK.1
  have o0 : ¬ (1 : Int32) = 0 := by decide
  have dead : ∀ k i n2 M a (k5 : Int32 → Int32 → xM → Option (Int32 × xM)), i + k = 4 → k < n2 → F_X12_written_b18 fu (nI n) 1 k5 n2 (nI a) (nI p) 1 (nI i) M = k5 (nI (a + 1)) (nI (p + 1)) M := by
    intro k
    induction k with
    | zero =>
      intro i n2 M a k5 hk hn2
      obtain ⟨n2, rfl⟩ : ∃ z, n2 = z + 1 := ⟨n2 - 1, by omega⟩
      obtain rfl : i = 4 := by omega
      rw [F_X12_written_b18, if_pos (by decide), F_X12_written_b77, if_neg o0, if_neg o0, F_X12_written_b100, F_X12_written_b105, add1, add1]
    | succ k ih =>
      intro i n2 M a k5 hk hn2
      obtain ⟨n2, rfl⟩ : ∃ z, n2 = z + 1 := ⟨n2 - 1, by omega⟩
      rw [F_X12_written_b18, if_neg (show ¬ (4 : Int32) ≤ nI i from nI_ge (b := 4) (by omega) (by decide)), if_pos rfl, if_neg o0, F_X12_written_b64, F_X12_written_b69, add1]
      exact ih (i + 1) n2 M a k5 (by omega) (by omega)
  have loop : ∀ k i n1, i + k = 4 → k < n1 → ∃ v : Int32, (v = 0 ∨ v = 1) ∧ F_X6_mayBeFor_b2 fu (nI p) (nI n) n1 (nI i) C = some (v, C) ∧ ∀ M n2 a (k5 : Int32 → Int32 → xM → Option (Int32 × xM)), k < n2 → PS R M → ∃ M', PS R M' ∧ F_X12_written_b18 fu (nI n) 1 k5 n2 (nI a) (nI p) 0 (nI i) M = if v = 0 then k5 (nI a) (nI (p + 1)) M' else k5 (nI (a + 1)) (nI (p + 1)) M' := by
    intro k
    induction k with
    | zero =>
      intro i n1 hk hn1
      obtain ⟨n1, rfl⟩ : ∃ z, n1 = z + 1 := ⟨n1 - 1, by omega⟩
      obtain rfl : i = 4 := by omega
      refine ⟨0, Or.inl rfl, ?_, fun M n2 a k5 hn2 hP => ⟨M, hP, ?_⟩⟩
      · rw [F_X6_mayBeFor_b2, if_pos (by decide)]
      · obtain ⟨n2, rfl⟩ : ∃ z, n2 = z + 1 := ⟨n2 - 1, by omega⟩
        rw [F_X12_written_b18, if_pos (by decide), F_X12_written_b77, if_neg o0, if_pos rfl, F_X12_written_b104, F_X12_written_b105, add1]
        exact congrArg (fun z => k5 z (nI (p + 1)) M) (nI_add a 0)
    | succ k ih =>
      intro i n1 hk hn1
      obtain ⟨n1, rfl⟩ : ∃ z, n1 = z + 1 := ⟨n1 - 1, by omega⟩
      have hi : i < 4 := by omega
      have n4 : ¬ (4 : Int32) ≤ nI i := nI_ge (b := 4) (by omega) (by decide)
      obtain ⟨v, hv, I1, I2⟩ := ih (i + 1) n1 (by omega) (by omega)
      rcases rd3 hK (PS.rf (R := R)) hp hi with ⟨q1, q2, -⟩ | ⟨q1, q2, -⟩
      · have refh : ∀ M n2 a (k5 : Int32 → Int32 → xM → Option (Int32 × xM)), PS R M → ∃ M1, PS R M1 ∧ F_X12_written_b18 fu (nI n) 1 k5 (n2 + 1) (nI a) (nI p) 0 (nI i) M = if tb (nI (gos R kn lim p i)) n = true then F_X12_written_b18 fu (nI n) 1 k5 n2 (nI a) (nI p) 1 (nI (i + 1)) M1 else F_X12_written_b18 fu (nI n) 1 k5 n2 (nI a) (nI p) 0 (nI (i + 1)) M1 := by
          intro M n2 a k5 hP
          obtain ⟨M1, e1, hP1⟩ := goR_ok hfu hK hl r59 hP hp hi
          refine ⟨M1, hP1, ?_⟩
          rcases rd3 hK hP hp hi with ⟨-, -, u⟩ | ⟨u, -, -⟩
          · rw [F_X12_written_b18, if_neg n4, if_pos rfl, if_pos rfl, u]
            simp only [Option.bind_some]
            rw [if_neg o0, ix30, e1]
            simp only [Option.bind_some, F_X12_written_b64, F_X12_written_b68, F_X12_written_b69, add1]
            rw [has12_tb (by omega)]
            cases tb (nI (gos R kn lim p i)) n <;> rfl
          · exact absurd q1 u
        have cls : F_X6_mayBeFor_b2 fu (nI p) (nI n) (n1 + 1) (nI i) C = if tb (nI (gos R kn lim p i)) n = true then some (1, C) else F_X6_mayBeFor_b2 fu (nI p) (nI n) n1 (nI (i + 1)) C := by
          rw [F_X6_mayBeFor_b2, if_neg n4, if_neg (by rw [q2]; decide), goC_ok hfu hK hl c91 hp hi]
          simp only [Option.bind_some, F_X6_mayBeFor_b31, add1]
          rw [has_tb (by omega)]
          cases tb (nI (gos R kn lim p i)) n <;> rfl
        by_cases g : tb (nI (gos R kn lim p i)) n = true
        · refine ⟨1, Or.inr rfl, by rw [cls, if_pos g], fun M n2 a k5 hn2 hP => ?_⟩
          obtain ⟨n2, rfl⟩ : ∃ z, n2 = z + 1 := ⟨n2 - 1, by omega⟩
          obtain ⟨M1, hP1, e⟩ := refh M n2 a k5 hP
          refine ⟨M1, hP1, ?_⟩
          rw [e, if_pos g, if_neg o0]
          exact dead k (i + 1) n2 M1 a k5 (by omega) (by omega)
        · refine ⟨v, hv, by rw [cls, if_neg g]; exact I1, fun M n2 a k5 hn2 hP => ?_⟩
          obtain ⟨n2, rfl⟩ : ∃ z, n2 = z + 1 := ⟨n2 - 1, by omega⟩
          obtain ⟨M1, hP1, e⟩ := refh M n2 a k5 hP
          rw [e, if_neg g]
          exact I2 M1 n2 a k5 (by omega) hP1
      · refine ⟨v, hv, ?_, fun M n2 a k5 hn2 hP => ?_⟩
        · rw [F_X6_mayBeFor_b2, if_neg n4, if_pos q2, F_X6_mayBeFor_b31, add1]
          exact I1
        · obtain ⟨n2, rfl⟩ : ∃ z, n2 = z + 1 := ⟨n2 - 1, by omega⟩
          rcases rd3 hK hP hp hi with ⟨u, -, -⟩ | ⟨-, -, u⟩
          · exact absurd u q1
          · rw [F_X12_written_b18, if_neg n4, if_pos rfl, if_pos rfl, u]
            simp only [Option.bind_some, F_X12_written_b68, F_X12_written_b69, add1]
            exact I2 M n2 a k5 (by omega) hP
  obtain ⟨v, hv, h1, h2⟩ := loop 4 0 fu (by omega) (by omega)
  exact ⟨v, hv, h1, fun M a k5 hP => h2 M fu a k5 (by omega) hP⟩
theorem wr1 (hfu : 70000 ≤ fu) (hK : RMk kn C R) (hl : lim ≤ 8) (c91 : C 9 1 = nI lim) (r59 : R 0 59 = nI lim) {n : Nat} (hn : n < kn) : ∃ b, b ≤ 30 ∧ F_X6_mostFor fu (nI n) C = some (nI b, C) ∧ ∀ M, PS R M → ∃ M', F_X12_written fu (nI n) 1 M = some (nI b, M') ∧ PS R M' := by
  have loop : ∀ k p n1 a, p + k = 30 → k < n1 → a ≤ p → ∃ b, b ≤ 30 ∧ F_X6_mostFor_b4 fu (nI n) n1 (nI a) (nI p) C = some (nI b, C) ∧ ∀ M n2, k < n2 → PS R M → ∃ M', F_X12_written_b5 fu (nI n) 1 n2 (nI a) (nI p) M = some (nI b, M') ∧ PS R M' := by
    intro k
    induction k with
    | zero =>
      intro p n1 a hk hn1 ha
      obtain ⟨n1, rfl⟩ : ∃ z, n1 = z + 1 := ⟨n1 - 1, by omega⟩
      obtain rfl : p = 30 := by omega
      refine ⟨a, ha, ?_, fun M n2 hn2 hP => ⟨M, ?_, hP⟩⟩
      · rw [F_X6_mostFor_b4, if_pos (by decide)]
      · obtain ⟨n2, rfl⟩ : ∃ z, n2 = z + 1 := ⟨n2 - 1, by omega⟩
        rw [F_X12_written_b5, if_pos (by decide)]
    | succ k ih =>
      intro p n1 a hk hn1 ha
      obtain ⟨n1, rfl⟩ : ∃ z, n1 = z + 1 := ⟨n1 - 1, by omega⟩
      have hp : p < 30 := by omega
      have n30 : ¬ (30 : Int32) ≤ nI p := nI_ge (b := 30) (by omega) (by decide)
      obtain ⟨v, hv, h1, h3⟩ := mb_ok hfu hK hl c91 r59 hn hp
      by_cases g : v = 0
      · obtain ⟨b, hb, I1, I2⟩ := ih (p + 1) n1 a (by omega) (by omega) (by omega)
        refine ⟨b, hb, ?_, fun M n2 hn2 hP => ?_⟩
        · rw [F_X6_mostFor_b4, if_neg n30, h1]
          simp only [Option.bind_some, F_X6_mostFor_b22, add1]
          rw [if_pos g]
          exact I1
        · obtain ⟨n2, rfl⟩ : ∃ z, n2 = z + 1 := ⟨n2 - 1, by omega⟩
          obtain ⟨M1, hP1, e⟩ := h3 M a (F_X12_written_b5 fu (nI n) 1 n2) hP
          rw [F_X12_written_b5, if_neg n30, e, if_pos g]
          exact I2 M1 n2 (by omega) hP1
      · obtain ⟨b, hb, I1, I2⟩ := ih (p + 1) n1 (a + 1) (by omega) (by omega) (by omega)
        refine ⟨b, hb, ?_, fun M n2 hn2 hP => ?_⟩
        · rw [F_X6_mostFor_b4, if_neg n30, h1]
          simp only [Option.bind_some, F_X6_mostFor_b22, add1]
          rw [if_neg g]
          exact I1
        · obtain ⟨n2, rfl⟩ : ∃ z, n2 = z + 1 := ⟨n2 - 1, by omega⟩
          obtain ⟨M1, hP1, e⟩ := h3 M a (F_X12_written_b5 fu (nI n) 1 n2) hP
          rw [F_X12_written_b5, if_neg n30, e, if_neg g]
          exact I2 M1 n2 (by omega) hP1
  obtain ⟨b, hb, h1, h2⟩ := loop 30 0 fu 0 (by omega) (by omega) (Nat.le_refl _)
  exact ⟨b, hb, h1, fun M hP => h2 M fu (by omega) hP⟩
theorem op_writtenFor (hfu : 70000 ≤ fu) (x1 x2 : Int32) (hM : RM C R) (hI : RI C R) : ∃ v R', F_X11_writtenFor fu x1 x2 C = some (v, C) ∧ F_X12_writtenFor fu x1 x2 R = some (v, R') := by
  obtain ⟨kn, hK⟩ := hM
  obtain ⟨lim, hl, c91, r59⟩ := hI
  have hK' := PS.x00.k hK
  unfold F_X12_writtenFor F_X11_writtenFor
  rcases nm_ok hK'.1 hK'.2.1 hK'.2.2.1 x1 with ⟨b1, b2⟩ | ⟨n, hn, rfl, b1, b2⟩
  · rw [if_pos b1, if_pos b2]
    exact ⟨_, _, rfl, rfl⟩
  rw [if_neg b1, if_neg b2, isIn_eq (N := C)]
  by_cases g : P_X1_within x2 0 1 C = 0
  · rw [if_pos g, if_pos g]
    exact ⟨_, _, rfl, rfl⟩
  obtain ⟨c, hc, rfl⟩ := Classical.not_not.mp fun z => g ((within0n (n := 1) (by decide)).mpr z)
  rw [if_neg g, if_neg g]
  rcases (show c = 0 ∨ c = 1 by omega) with rfl | rfl
  · obtain ⟨b, hb, h1, h2⟩ := wr0 hfu hK hl c91 r59 hn
    obtain ⟨M', h3, -⟩ := h2 _ PS.x00
    rw [if_pos (show nI 0 = 0 from rfl), h1, show F_X12_written fu (nI n) (nI 0) (xset R 0 0 0) = _ from h3]
    exact ⟨_, _, rfl, rfl⟩
  · obtain ⟨b, hb, h1, h2⟩ := wr1 hfu hK hl c91 r59 hn
    obtain ⟨M', h3, -⟩ := h2 _ PS.x00
    rw [if_neg (show ¬ nI 1 = 0 by decide), h1, show F_X12_written fu (nI n) (nI 1) (xset R 0 0 0) = _ from h3]
    exact ⟨_, _, rfl, rfl⟩
theorem op_elected (hfu : 70000 ≤ fu) (hM : RM C R) (hI : RI C R) : ∃ v R', F_X11_elected fu C = some (v, C) ∧ F_X12_elected fu R = some (v, R') := by
  obtain ⟨kn, hK⟩ := hM
  obtain ⟨lim, hl, c91, r59⟩ := hI
  have hk8 := hK.1
  have o0 : ¬ (1 : Int32) = 0 := by decide
  have h58 : ∀ M, PS R M → M 0 58 = nI kn := fun M hP => (hP 0 58 (by decide) (by decide)).trans hK.2.2.1
  have dead : ∀ k i n2 M n (k7 : Int32 → xM → Option (Int32 × xM)), i + k = kn → k < n2 → PS R M → F_X12_elected_b19 fu k7 n2 (nI n) 0 (nI i) M = k7 (nI (n + 1)) M := by
    intro k
    induction k with
    | zero =>
      intro i n2 M n k7 hk hn2 hP
      obtain ⟨n2, rfl⟩ : ∃ z, n2 = z + 1 := ⟨n2 - 1, by omega⟩
      rw [F_X12_elected_b19, h58 M hP, if_pos (nI_le (by omega) (by omega)), if_pos rfl, add1]
    | succ k ih =>
      intro i n2 M n k7 hk hn2 hP
      obtain ⟨n2, rfl⟩ : ∃ z, n2 = z + 1 := ⟨n2 - 1, by omega⟩
      rw [F_X12_elected_b19, h58 M hP, if_neg (show ¬ nI kn ≤ nI i from nI_ge (by omega) (by omega)), if_pos rfl, F_X12_elected_b55, F_X12_elected_b56, add1]
      exact ih (i + 1) n2 M n k7 (by omega) (by omega) hP
  have inner : ∀ n s, n < kn → s ≤ 30 → (∀ M, PS R M → ∃ M', F_X12_written fu (nI n) 0 M = some (nI s, M') ∧ PS R M') → ∀ k i n1, i + k = kn → k < n1 → ∃ v : Int32, F_X6_isAboveOthers_b8 fu (nI n) n1 (nI s) (nI i) C = some (v, C) ∧ ∀ M n2 (k7 : Int32 → xM → Option (Int32 × xM)), k < n2 → PS R M → ∃ M', PS R M' ∧ F_X12_elected_b19 fu k7 n2 (nI n) 1 (nI i) M = if v = 0 then k7 (nI (n + 1)) M' else some (nI n, M') := by
    intro n s hn hs hW k
    induction k with
    | zero =>
      intro i n1 hk hn1
      obtain ⟨n1, rfl⟩ : ∃ z, n1 = z + 1 := ⟨n1 - 1, by omega⟩
      refine ⟨1, ?_, fun M n2 k7 hn2 hP => ⟨M, hP, ?_⟩⟩
      · rw [F_X6_isAboveOthers_b8, hK.2.1, if_pos (nI_le (by omega) (by omega))]
      · obtain ⟨n2, rfl⟩ : ∃ z, n2 = z + 1 := ⟨n2 - 1, by omega⟩
        rw [F_X12_elected_b19, h58 M hP, if_pos (nI_le (by omega) (by omega)), if_neg o0, if_neg o0]
    | succ k ih =>
      intro i n1 hk hn1
      obtain ⟨n1, rfl⟩ : ∃ z, n1 = z + 1 := ⟨n1 - 1, by omega⟩
      have ki : ¬ nI kn ≤ nI i := nI_ge (by omega) (by omega)
      obtain ⟨v, I1, I2⟩ := ih (i + 1) n1 (by omega) (by omega)
      by_cases e : i = n
      · subst e
        refine ⟨v, ?_, fun M n2 k7 hn2 hP => ?_⟩
        · rw [F_X6_isAboveOthers_b8, hK.2.1, if_neg ki, if_pos rfl, F_X6_isAboveOthers_b32, add1]
          exact I1
        · obtain ⟨n2, rfl⟩ : ∃ z, n2 = z + 1 := ⟨n2 - 1, by omega⟩
          rw [F_X12_elected_b19, h58 M hP, if_neg ki, if_neg o0, if_pos rfl, F_X12_elected_b51, F_X12_elected_b56, add1]
          exact I2 M n2 k7 (by omega) hP
      · have ne : ¬ nI i = nI n := fun z => e ((nI_eq (by omega) (by omega)).mp z)
        obtain ⟨b, hb, h1, h2⟩ := wr1 hfu hK hl c91 r59 (show i < kn by omega)
        have refh : ∀ M n2 (k7 : Int32 → xM → Option (Int32 × xM)), PS R M → ∃ M1, PS R M1 ∧ F_X12_elected_b19 fu k7 (n2 + 1) (nI n) 1 (nI i) M = if b < s then F_X12_elected_b19 fu k7 n2 (nI n) 1 (nI (i + 1)) M1 else F_X12_elected_b19 fu k7 n2 (nI n) 0 (nI (i + 1)) M1 := by
          intro M n2 k7 hP
          obtain ⟨M1, e1, hP1⟩ := hW M hP
          obtain ⟨M2, e2, hP2⟩ := h2 M1 hP1
          refine ⟨M2, hP2, ?_⟩
          rw [F_X12_elected_b19, h58 M hP, if_neg ki, if_neg o0, if_neg ne, e1]
          simp only [Option.bind_some]
          rw [e2]
          simp only [Option.bind_some, F_X12_elected_b51, F_X12_elected_b55, F_X12_elected_b56, add1]
          by_cases g : b < s
          · rw [if_neg (show ¬ nI s ≤ nI b from nI_ge g (by omega)), if_pos g]
          · rw [if_pos (nI_le (by omega) (by omega)), if_neg g]
        have cls : F_X6_isAboveOthers_b8 fu (nI n) (n1 + 1) (nI s) (nI i) C = if b < s then F_X6_isAboveOthers_b8 fu (nI n) n1 (nI s) (nI (i + 1)) C else some (0, C) := by
          rw [F_X6_isAboveOthers_b8, hK.2.1, if_neg ki, if_neg ne, h1]
          simp only [Option.bind_some, F_X6_isAboveOthers_b32, add1]
          by_cases g : b < s
          · rw [if_pos (nI_lt g (by omega)), if_pos g]
          · rw [if_neg (nI_nlt (by omega) (by omega)), if_neg g]
        by_cases g : b < s
        · refine ⟨v, by rw [cls, if_pos g]; exact I1, fun M n2 k7 hn2 hP => ?_⟩
          obtain ⟨n2, rfl⟩ : ∃ z, n2 = z + 1 := ⟨n2 - 1, by omega⟩
          obtain ⟨M1, hP1, e3⟩ := refh M n2 k7 hP
          rw [e3, if_pos g]
          exact I2 M1 n2 k7 (by omega) hP1
        · refine ⟨0, by rw [cls, if_neg g], fun M n2 k7 hn2 hP => ?_⟩
          obtain ⟨n2, rfl⟩ : ∃ z, n2 = z + 1 := ⟨n2 - 1, by omega⟩
          obtain ⟨M1, hP1, e3⟩ := refh M n2 k7 hP
          refine ⟨M1, hP1, ?_⟩
          rw [e3, if_neg g, if_pos rfl]
          exact dead k (i + 1) n2 M1 n k7 (by omega) (by omega) hP1
  have outer : ∀ k n n1, n + k = kn → k < n1 → ∃ v, F_X6_sureWinner_b2 fu n1 (nI n) C = some (v, C) ∧ ∀ M n2, k < n2 → PS R M → ∃ M', F_X12_elected_b7 fu n2 (nI n) M = some (v, M') := by
    intro k
    induction k with
    | zero =>
      intro n n1 hk hn1
      obtain ⟨n1, rfl⟩ : ∃ z, n1 = z + 1 := ⟨n1 - 1, by omega⟩
      refine ⟨-1, ?_, fun M n2 hn2 hP => ⟨M, ?_⟩⟩
      · rw [F_X6_sureWinner_b2, hK.2.1, if_pos (nI_le (by omega) (by omega))]
      · obtain ⟨n2, rfl⟩ : ∃ z, n2 = z + 1 := ⟨n2 - 1, by omega⟩
        rw [F_X12_elected_b7, h58 M hP, if_pos (nI_le (by omega) (by omega))]
    | succ k ih =>
      intro n n1 hk hn1
      obtain ⟨n1, rfl⟩ : ∃ z, n1 = z + 1 := ⟨n1 - 1, by omega⟩
      have ki : ¬ nI kn ≤ nI n := nI_ge (by omega) (by omega)
      obtain ⟨v, I1, I2⟩ := ih (n + 1) n1 (by omega) (by omega)
      obtain ⟨s, hs, w1, w2⟩ := wr0 hfu hK hl c91 r59 (show n < kn by omega)
      obtain ⟨u, u1, u2⟩ := inner n s (by omega) hs w2 kn 0 fu (by omega) (by omega)
      have cls : F_X6_isAboveOthers fu (nI n) C = some (u, C) := by
        rw [F_X6_isAboveOthers, w1]
        exact u1
      by_cases g : u = 0
      · refine ⟨v, ?_, fun M n2 hn2 hP => ?_⟩
        · rw [F_X6_sureWinner_b2, hK.2.1, if_neg ki, cls]
          simp only [Option.bind_some, add1]
          rw [if_pos g]
          exact I1
        · obtain ⟨n2, rfl⟩ : ∃ z, n2 = z + 1 := ⟨n2 - 1, by omega⟩
          obtain ⟨M1, hP1, e3⟩ := u2 M fu (F_X12_elected_b7 fu n2) (by omega) hP
          rw [F_X12_elected_b7, h58 M hP, if_neg ki, show F_X12_elected_b19 fu (F_X12_elected_b7 fu n2) fu (nI n) 1 0 M = _ from e3, if_pos g]
          exact I2 M1 n2 (by omega) hP1
      · refine ⟨nI n, ?_, fun M n2 hn2 hP => ?_⟩
        · rw [F_X6_sureWinner_b2, hK.2.1, if_neg ki, cls]
          simp only [Option.bind_some, add1]
          rw [if_neg g]
        · obtain ⟨n2, rfl⟩ : ∃ z, n2 = z + 1 := ⟨n2 - 1, by omega⟩
          obtain ⟨M1, hP1, e3⟩ := u2 M fu (F_X12_elected_b7 fu n2) (by omega) hP
          rw [F_X12_elected_b7, h58 M hP, if_neg ki, show F_X12_elected_b19 fu (F_X12_elected_b7 fu n2) fu (nI n) 1 0 M = _ from e3, if_neg g]
          exact ⟨M1, rfl⟩
  obtain ⟨v, h1, h2⟩ := outer kn 0 fu (by omega) (by omega)
  obtain ⟨M', h3⟩ := h2 _ fu (by omega) PS.x00
  refine ⟨v, M', ?_, h3⟩
  rw [F_X11_elected, show F_X6_sureWinner fu C = _ from h1]
  rfl
end ELE
