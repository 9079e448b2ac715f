/-! WHAT A METHOD WRITES: outside of these cells and fields the numbers stay -/
def xin (ws : List (Nat × Option Nat)) (k j : Nat) : Bool := ws.any (fun p => p.1 == k && (p.2 == none || p.2 == some j))
def xfr (ws : List (Nat × Option Nat)) (M M' : xM) : Prop := ∀ k j, xin ws k j = false → M' k j = M k j
def xwsub (a b : List (Nat × Option Nat)) : Bool := a.all (fun p => b.any (fun q => q.1 == p.1 && (q.2 == none || q.2 == p.2)))
theorem xfr.rf {ws : List (Nat × Option Nat)} {M : xM} : xfr ws M M := fun _ _ _ => rfl
theorem xin_sub {a b : List (Nat × Option Nat)} (h : xwsub a b = true) {k j : Nat} (hb : xin b k j = false) : xin a k j = false := by
  cases ha : xin a k j with
  | false => rfl
  | true =>
    obtain ⟨p, hp, h1⟩ := List.any_eq_true.mp ha
    have h2 := List.all_eq_true.mp h p hp
    obtain ⟨q, hq, h3⟩ := List.any_eq_true.mp h2
    have : xin b k j = true := by
      refine List.any_eq_true.mpr ⟨q, hq, ?_⟩
      simp only [Bool.and_eq_true, Bool.or_eq_true, beq_iff_eq] at h1 h3 ⊢
      refine ⟨h3.1.trans h1.1, ?_⟩
      rcases h3.2 with e | e
      · exact Or.inl e
      · rcases h1.2 with e2 | e2
        · exact Or.inl (e.trans e2)
        · exact Or.inr (e.trans e2)
    rw [hb] at this
    cases this
theorem xfr.mono {a b : List (Nat × Option Nat)} {M M' : xM} (h : xfr a M M') (hs : xwsub a b = true) : xfr b M M' := fun k j hb => h k j (xin_sub hs hb)
theorem xfr.tr {ws : List (Nat × Option Nat)} {M M1 M2 : xM} (h : xfr ws M M1) (h2 : xfr ws M1 M2) : xfr ws M M2 := fun k j hb => (h2 k j hb).trans (h k j hb)
theorem xfr.setf {ws : List (Nat × Option Nat)} {M M1 : xM} {k j : Nat} {v : Int32} (h : xfr ws M M1) (hw : xin ws k j = true) : xfr ws M (xset M1 k j v) := by
  intro a b hb
  have : ¬ (a = k ∧ b = j) := by
    rintro ⟨rfl, rfl⟩
    rw [hb] at hw
    cases hw
  rw [xset, if_neg this]
  exact h a b hb
theorem xin_none {ws : List (Nat × Option Nat)} {k : Nat} (hw : ws.any (fun p => p.1 == k && p.2 == none) = true) (j : Nat) : xin ws k j = true := by
  obtain ⟨p, hp, h1⟩ := List.any_eq_true.mp hw
  refine List.any_eq_true.mpr ⟨p, hp, ?_⟩
  simp only [Bool.and_eq_true, Bool.or_eq_true, beq_iff_eq] at h1 ⊢
  exact ⟨h1.1, Or.inl h1.2⟩
theorem xfr.seta {ws : List (Nat × Option Nat)} {M M1 : xM} {k j : Nat} {v : Int32} (h : xfr ws M M1) (hw : ws.any (fun p => p.1 == k && p.2 == none) = true) : xfr ws M (xset M1 k j v) := h.setf (xin_none hw j)
def Fr {ρ : Type} (ws : List (Nat × Option Nat)) (M0 : xM) (res : ρ → xM) (o : Option ρ) : Prop := ∀ q, o = Option.some q → xfr ws M0 (res q)
section FR
variable {ρ ρ' : Type} {ws ws' : List (Nat × Option Nat)} {M0 M : xM} {res : ρ → xM} {res' : ρ' → xM}
theorem Fr.none : Fr ws M0 res none := fun _ h => by cases h
theorem Fr.ite {c : Prop} [Decidable c] {a b : Option ρ} (h1 : Fr ws M0 res a) (h2 : Fr ws M0 res b) : Fr ws M0 res (if c then a else b) := by
  by_cases h : c
  · rw [if_pos h]; exact h1
  · rw [if_neg h]; exact h2
theorem Fr.some {v : Int32} (h : xfr ws M0 M) : Fr ws M0 Prod.snd (Option.some (v, M)) := fun _ e => by cases e; exact h
theorem Fr.somev (h : xfr ws M0 M) : Fr ws M0 id (Option.some M) := fun _ e => by cases e; exact h
theorem Fr.bind {oc : Option ρ'} {k : ρ' → Option ρ} (hc : Fr ws' M res' oc) (hs : xwsub ws' ws = true) (hm : xfr ws M0 M) (hk : ∀ x, xfr ws M0 (res' x) → Fr ws M0 res (k x)) : Fr ws M0 res (oc.bind k) := by
  intro q h
  obtain ⟨x, h1, h2⟩ := Option.bind_eq_some_iff.mp h
  exact hk x (hm.tr ((hc x h1).mono hs)) q h2
theorem Fr.bindn {oc : Option Nat} {k : Nat → Option ρ} (hk : ∀ x, Fr ws M0 res (k x)) : Fr ws M0 res (oc.bind k) := by
  intro q h
  obtain ⟨x, h1, h2⟩ := Option.bind_eq_some_iff.mp h
  exact hk x q h2
end FR
abbrev wr_X1_put (r0 : Nat) : List (Nat × Option Nat) := [(r0, none)]
theorem fr_X1_put_b0 {M0 : xM}  (r0 n0 : Nat) (x1 : Int32) (x2 : Int32)   (M : xM) (hm : xfr (wr_X1_put r0) M0 M) : Fr (wr_X1_put r0) M0 id (F_X1_put r0 n0 x1 x2  M) := by
  unfold F_X1_put
  refine Fr.ite ?_ ?_
  · exact Fr.somev hm
  · refine Fr.ite ?_ ?_
    · exact Fr.somev hm
    · refine Fr.ite Fr.none ?_
      exact Fr.somev (hm.seta (by first | decide | simp))
theorem fr_X1_put  (r0 n0 : Nat) (x1 : Int32) (x2 : Int32) (M : xM) : Fr (wr_X1_put r0) M id (F_X1_put  r0 n0 x1 x2  M) := fr_X1_put_b0 r0 n0 x1 x2  M xfr.rf
abbrev wr_X1_swap (r0 : Nat) : List (Nat × Option Nat) := [(r0, none)]
theorem fr_X1_swap_b0 {M0 : xM}  (r0 n0 : Nat) (x1 : Int32) (x2 : Int32)   (M : xM) (hm : xfr (wr_X1_swap r0) M0 M) : Fr (wr_X1_swap r0) M0 id (F_X1_swap r0 n0 x1 x2  M) := by
  unfold F_X1_swap
  refine Fr.ite ?_ ?_
  · exact Fr.somev hm
  · refine Fr.ite ?_ ?_
    · exact Fr.somev hm
    · refine Fr.ite ?_ ?_
      · exact Fr.somev hm
      · refine Fr.ite ?_ ?_
        · exact Fr.somev hm
        · refine Fr.ite Fr.none ?_
          refine Fr.ite Fr.none ?_
          refine Fr.ite Fr.none ?_
          refine Fr.ite Fr.none ?_
          exact Fr.somev ((hm.seta (by first | decide | simp)).seta (by first | decide | simp))
theorem fr_X1_swap  (r0 n0 : Nat) (x1 : Int32) (x2 : Int32) (M : xM) : Fr (wr_X1_swap r0) M id (F_X1_swap  r0 n0 x1 x2  M) := fr_X1_swap_b0 r0 n0 x1 x2  M xfr.rf
abbrev wr_X0_addOffice : List (Nat × Option Nat) := [(1, some 1), (1, some 7), (1, some 8), (11, none), (12, none)]
theorem fr_X0_addOffice_b0 {M0 : xM}  (x1 : Int32) (x2 : Int32)   (M : xM) (hm : xfr wr_X0_addOffice M0 M) : Fr wr_X0_addOffice M0 Prod.snd (F_X0_addOffice x1 x2  M) := by
  unfold F_X0_addOffice
  refine Fr.ite ?_ ?_
  · exact Fr.some hm
  · refine Fr.ite ?_ ?_
    · exact Fr.some hm
    · refine Fr.ite ?_ ?_
      · refine Fr.ite ?_ ?_
        · refine Fr.ite ?_ ?_
          · exact Fr.some hm
          · refine Fr.bind (fr_X1_put _ _ _ _ _) (by first | decide | simp [xwsub]) hm (fun q1 hm_q1 => ?_)
            refine Fr.bind (fr_X1_put _ _ _ _ _) (by first | decide | simp [xwsub]) hm_q1 (fun q2 hm_q2 => ?_)
            exact Fr.some (((hm_q2.setf (by first | decide | simp [xin])).setf (by first | decide | simp [xin])).setf (by first | decide | simp [xin]))
        · exact Fr.some hm
      · exact Fr.some hm
theorem fr_X0_addOffice  (x1 : Int32) (x2 : Int32) (M : xM) : Fr wr_X0_addOffice M Prod.snd (F_X0_addOffice  x1 x2  M) := fr_X0_addOffice_b0 x1 x2  M xfr.rf
abbrev wr_X0_addStrap : List (Nat × Option Nat) := [(1, some 2), (1, some 8), (13, none), (14, none)]
theorem fr_X0_addStrap_b0 {M0 : xM}  (x1 : Int32) (x2 : Int32)   (M : xM) (hm : xfr wr_X0_addStrap M0 M) : Fr wr_X0_addStrap M0 Prod.snd (F_X0_addStrap x1 x2  M) := by
  unfold F_X0_addStrap
  refine Fr.ite ?_ ?_
  · exact Fr.some hm
  · refine Fr.ite ?_ ?_
    · exact Fr.some hm
    · refine Fr.ite ?_ ?_
      · exact Fr.some hm
      · refine Fr.ite ?_ ?_
        · exact Fr.some hm
        · refine Fr.bind (fr_X1_put _ _ _ _ _) (by first | decide | simp [xwsub]) hm (fun q1 hm_q1 => ?_)
          refine Fr.bind (fr_X1_put _ _ _ _ _) (by first | decide | simp [xwsub]) hm_q1 (fun q2 hm_q2 => ?_)
          exact Fr.some ((hm_q2.setf (by first | decide | simp [xin])).setf (by first | decide | simp [xin]))
theorem fr_X0_addStrap  (x1 : Int32) (x2 : Int32) (M : xM) : Fr wr_X0_addStrap M Prod.snd (F_X0_addStrap  x1 x2  M) := fr_X0_addStrap_b0 x1 x2  M xfr.rf
abbrev wr_X0_dropStrap : List (Nat × Option Nat) := [(1, some 2), (1, some 8)]
theorem fr_X0_dropStrap_b0 {M0 : xM}     (M : xM) (hm : xfr wr_X0_dropStrap M0 M) : Fr wr_X0_dropStrap M0 Prod.snd (F_X0_dropStrap   M) := by
  unfold F_X0_dropStrap
  refine Fr.ite ?_ ?_
  · exact Fr.some hm
  · exact Fr.some ((hm.setf (by first | decide | simp [xin])).setf (by first | decide | simp [xin]))
theorem fr_X0_dropStrap   (M : xM) : Fr wr_X0_dropStrap M Prod.snd (F_X0_dropStrap    M) := fr_X0_dropStrap_b0   M xfr.rf
abbrev wr_X0_officeOf : List (Nat × Option Nat) := []
theorem fr_X0_officeOf_b2 {M0 : xM} (fu : Nat)  (x1 : Int32)  : ∀ (n : Nat) (x2 : Int32) (M : xM), xfr wr_X0_officeOf M0 M → Fr wr_X0_officeOf M0 Prod.snd (F_X0_officeOf_b2 fu x1 n x2 M) := by
  intro n
  induction n with
  | zero =>
    intro x2 M hm
    exact Fr.none
  | succ n ih =>
    intro x2 M hm
    rw [F_X0_officeOf_b2]
    refine Fr.ite ?_ ?_
    · exact Fr.some hm
    · refine Fr.ite ?_ ?_
      · exact ih _ _ hm
      · exact Fr.some hm
theorem fr_X0_officeOf_b0 {M0 : xM} (fu : Nat)  (x1 : Int32)   (M : xM) (hm : xfr wr_X0_officeOf M0 M) : Fr wr_X0_officeOf M0 Prod.snd (F_X0_officeOf fu x1  M) := by
  unfold F_X0_officeOf
  exact fr_X0_officeOf_b2 fu x1  fu _ _ hm
theorem fr_X0_officeOf (fu : Nat)  (x1 : Int32) (M : xM) : Fr wr_X0_officeOf M Prod.snd (F_X0_officeOf fu x1  M) := fr_X0_officeOf_b0 fu x1  M xfr.rf
abbrev wr_X0_strapsAgainst : List (Nat × Option Nat) := []
theorem fr_X0_strapsAgainst_b73 {M0 : xM} (fu : Nat)  (x1 : Int32) (x2 : Int32) {k5 : Int32 → Int32 → xM → Option (Int32 × xM)} (hk5 : ∀ (b0 : Int32) (b1 : Int32) (M : xM), xfr wr_X0_strapsAgainst M0 M → Fr wr_X0_strapsAgainst M0 Prod.snd (k5 b0 b1 M)) (x3 : Int32) (x4 : Int32) (M : xM) (hm : xfr wr_X0_strapsAgainst M0 M) : Fr wr_X0_strapsAgainst M0 Prod.snd (F_X0_strapsAgainst_b73 fu x1 x2 k5 x3 x4 M) := by
  unfold F_X0_strapsAgainst_b73
  exact hk5 _ _ _ hm
theorem fr_X0_strapsAgainst_b39 {M0 : xM} (fu : Nat)  (x1 : Int32) (x2 : Int32) {k5 : Int32 → Int32 → xM → Option (Int32 × xM)} (hk5 : ∀ (b0 : Int32) (b1 : Int32) (M : xM), xfr wr_X0_strapsAgainst M0 M → Fr wr_X0_strapsAgainst M0 Prod.snd (k5 b0 b1 M)) (x3 : Int32) (x4 : Int32) (x5 : Int32) (s0 : Int32) (M : xM) (hm : xfr wr_X0_strapsAgainst M0 M) : Fr wr_X0_strapsAgainst M0 Prod.snd (F_X0_strapsAgainst_b39 fu x1 x2 k5 x3 x4 x5 s0 M) := by
  unfold F_X0_strapsAgainst_b39
  refine Fr.ite ?_ ?_
  · refine Fr.ite ?_ ?_
    · exact fr_X0_strapsAgainst_b73 fu x1 x2 hk5 _ _ _ hm
    · exact fr_X0_strapsAgainst_b73 fu x1 x2 hk5 _ _ _ hm
  · exact fr_X0_strapsAgainst_b73 fu x1 x2 hk5 _ _ _ hm
theorem fr_X0_strapsAgainst_b5 {M0 : xM} (fu : Nat)  (x1 : Int32) (x2 : Int32)  : ∀ (n : Nat) (x3 : Int32) (x4 : Int32) (M : xM), xfr wr_X0_strapsAgainst M0 M → Fr wr_X0_strapsAgainst M0 Prod.snd (F_X0_strapsAgainst_b5 fu x1 x2 n x3 x4 M) := by
  intro n
  induction n with
  | zero =>
    intro x3 x4 M hm
    exact Fr.none
  | succ n ih =>
    intro x3 x4 M hm
    rw [F_X0_strapsAgainst_b5]
    refine Fr.ite ?_ ?_
    · exact Fr.some hm
    · refine Fr.ite ?_ ?_
      · exact fr_X0_strapsAgainst_b39 fu x1 x2 ih _ _ _ _ _ hm
      · exact fr_X0_strapsAgainst_b39 fu x1 x2 ih _ _ _ _ _ hm
theorem fr_X0_strapsAgainst_b0 {M0 : xM} (fu : Nat)  (x1 : Int32) (x2 : Int32)   (M : xM) (hm : xfr wr_X0_strapsAgainst M0 M) : Fr wr_X0_strapsAgainst M0 Prod.snd (F_X0_strapsAgainst fu x1 x2  M) := by
  unfold F_X0_strapsAgainst
  exact fr_X0_strapsAgainst_b5 fu x1 x2  fu _ _ _ hm
theorem fr_X0_strapsAgainst (fu : Nat)  (x1 : Int32) (x2 : Int32) (M : xM) : Fr wr_X0_strapsAgainst M Prod.snd (F_X0_strapsAgainst fu x1 x2  M) := fr_X0_strapsAgainst_b0 fu x1 x2  M xfr.rf
abbrev wr_X0_isLet : List (Nat × Option Nat) := []
theorem fr_X0_isLet_b0 {M0 : xM} (fu : Nat)  (x1 : Int32)   (M : xM) (hm : xfr wr_X0_isLet M0 M) : Fr wr_X0_isLet M0 Prod.snd (F_X0_isLet fu x1  M) := by
  unfold F_X0_isLet
  refine Fr.bind (fr_X0_strapsAgainst fu _ _ _) (by first | decide | simp [xwsub]) hm (fun q1 hm_q1 => ?_)
  refine Fr.ite ?_ ?_
  · exact Fr.some hm_q1
  · exact Fr.some hm_q1
theorem fr_X0_isLet (fu : Nat)  (x1 : Int32) (M : xM) : Fr wr_X0_isLet M Prod.snd (F_X0_isLet fu x1  M) := fr_X0_isLet_b0 fu x1  M xfr.rf
abbrev wr_X0_isLawful : List (Nat × Option Nat) := []
theorem fr_X0_isLawful_b2 {M0 : xM} (fu : Nat)  (x1 : Int32)  : ∀ (n : Nat) (x2 : Int32) (M : xM), xfr wr_X0_isLawful M0 M → Fr wr_X0_isLawful M0 Prod.snd (F_X0_isLawful_b2 fu x1 n x2 M) := by
  intro n
  induction n with
  | zero =>
    intro x2 M hm
    exact Fr.none
  | succ n ih =>
    intro x2 M hm
    rw [F_X0_isLawful_b2]
    refine Fr.ite ?_ ?_
    · exact Fr.some hm
    · refine Fr.ite ?_ ?_
      · exact ih _ _ hm
      · exact Fr.some hm
theorem fr_X0_isLawful_b0 {M0 : xM} (fu : Nat)  (x1 : Int32)   (M : xM) (hm : xfr wr_X0_isLawful M0 M) : Fr wr_X0_isLawful M0 Prod.snd (F_X0_isLawful fu x1  M) := by
  unfold F_X0_isLawful
  exact fr_X0_isLawful_b2 fu x1  fu _ _ hm
theorem fr_X0_isLawful (fu : Nat)  (x1 : Int32) (M : xM) : Fr wr_X0_isLawful M Prod.snd (F_X0_isLawful fu x1  M) := fr_X0_isLawful_b0 fu x1  M xfr.rf
abbrev wr_X0_holdsAll : List (Nat × Option Nat) := []
theorem fr_X0_holdsAll_b33 {M0 : xM} (fu : Nat)  (x1 : Int32) {k2 : Int32 → xM → Option (Int32 × xM)} (hk2 : ∀ (b0 : Int32) (M : xM), xfr wr_X0_holdsAll M0 M → Fr wr_X0_holdsAll M0 Prod.snd (k2 b0 M)) (x2 : Int32) (M : xM) (hm : xfr wr_X0_holdsAll M0 M) : Fr wr_X0_holdsAll M0 Prod.snd (F_X0_holdsAll_b33 fu x1 k2 x2 M) := by
  unfold F_X0_holdsAll_b33
  exact hk2 _ _ hm
theorem fr_X0_holdsAll_b2 {M0 : xM} (fu : Nat)  (x1 : Int32)  : ∀ (n : Nat) (x2 : Int32) (M : xM), xfr wr_X0_holdsAll M0 M → Fr wr_X0_holdsAll M0 Prod.snd (F_X0_holdsAll_b2 fu x1 n x2 M) := by
  intro n
  induction n with
  | zero =>
    intro x2 M hm
    exact Fr.none
  | succ n ih =>
    intro x2 M hm
    rw [F_X0_holdsAll_b2]
    refine Fr.ite ?_ ?_
    · exact Fr.some hm
    · refine Fr.ite ?_ ?_
      · refine Fr.ite ?_ ?_
        · exact Fr.some hm
        · exact fr_X0_holdsAll_b33 fu x1 ih _ _ hm
      · exact fr_X0_holdsAll_b33 fu x1 ih _ _ hm
theorem fr_X0_holdsAll_b0 {M0 : xM} (fu : Nat)  (x1 : Int32)   (M : xM) (hm : xfr wr_X0_holdsAll M0 M) : Fr wr_X0_holdsAll M0 Prod.snd (F_X0_holdsAll fu x1  M) := by
  unfold F_X0_holdsAll
  exact fr_X0_holdsAll_b2 fu x1  fu _ _ hm
theorem fr_X0_holdsAll (fu : Nat)  (x1 : Int32) (M : xM) : Fr wr_X0_holdsAll M Prod.snd (F_X0_holdsAll fu x1  M) := fr_X0_holdsAll_b0 fu x1  M xfr.rf
abbrev wr_X0_fewestStraps : List (Nat × Option Nat) := []
theorem fr_X0_fewestStraps_b39 {M0 : xM} (fu : Nat)   {k10 : Int32 → Int32 → xM → Option (Int32 × xM)} (hk10 : ∀ (b0 : Int32) (b1 : Int32) (M : xM), xfr wr_X0_fewestStraps M0 M → Fr wr_X0_fewestStraps M0 Prod.snd (k10 b0 b1 M)) (x1 : Int32) (x2 : Int32) (M : xM) (hm : xfr wr_X0_fewestStraps M0 M) : Fr wr_X0_fewestStraps M0 Prod.snd (F_X0_fewestStraps_b39 fu k10 x1 x2 M) := by
  unfold F_X0_fewestStraps_b39
  exact hk10 _ _ _ hm
theorem fr_X0_fewestStraps_b10 {M0 : xM} (fu : Nat)    : ∀ (n : Nat) (x1 : Int32) (x2 : Int32) (M : xM), xfr wr_X0_fewestStraps M0 M → Fr wr_X0_fewestStraps M0 Prod.snd (F_X0_fewestStraps_b10 fu n x1 x2 M) := by
  intro n
  induction n with
  | zero =>
    intro x1 x2 M hm
    exact Fr.none
  | succ n ih =>
    intro x1 x2 M hm
    rw [F_X0_fewestStraps_b10]
    refine Fr.ite ?_ ?_
    · exact Fr.some hm
    · refine Fr.ite ?_ ?_
      · exact fr_X0_fewestStraps_b39 fu ih _ _ _ hm
      · refine Fr.bind (fr_X0_holdsAll fu _ _) (by first | decide | simp [xwsub]) hm (fun q1 hm_q1 => ?_)
        refine Fr.ite ?_ ?_
        · exact fr_X0_fewestStraps_b39 fu ih _ _ _ hm_q1
        · exact fr_X0_fewestStraps_b39 fu ih _ _ _ hm_q1
theorem fr_X0_fewestStraps_b0 {M0 : xM} (fu : Nat)     (M : xM) (hm : xfr wr_X0_fewestStraps M0 M) : Fr wr_X0_fewestStraps M0 Prod.snd (F_X0_fewestStraps fu  M) := by
  unfold F_X0_fewestStraps
  exact fr_X0_fewestStraps_b10 fu  fu _ _ _ hm
theorem fr_X0_fewestStraps (fu : Nat)   (M : xM) : Fr wr_X0_fewestStraps M Prod.snd (F_X0_fewestStraps fu   M) := fr_X0_fewestStraps_b0 fu  M xfr.rf
abbrev wr_X0_sweep : List (Nat × Option Nat) := [(1, some 8), (1, some 9), (1, some 10), (1, some 11), (1, some 12), (15, none)]
theorem fr_X0_sweep_b138 {M0 : xM} (fu : Nat)   {k49 : Int32 → xM → Option (xM)} (hk49 : ∀ (b0 : Int32) (M : xM), xfr wr_X0_sweep M0 M → Fr wr_X0_sweep M0 id (k49 b0 M)) (x1 : Int32) (M : xM) (hm : xfr wr_X0_sweep M0 M) : Fr wr_X0_sweep M0 id (F_X0_sweep_b138 fu k49 x1 M) := by
  unfold F_X0_sweep_b138
  exact hk49 _ _ hm
theorem fr_X0_sweep_b117 {M0 : xM} (fu : Nat)   {k49 : Int32 → xM → Option (xM)} (hk49 : ∀ (b0 : Int32) (M : xM), xfr wr_X0_sweep M0 M → Fr wr_X0_sweep M0 id (k49 b0 M)) (x1 : Int32) (x2 : Int32) (x3 : Int32) (M : xM) (hm : xfr wr_X0_sweep M0 M) : Fr wr_X0_sweep M0 id (F_X0_sweep_b117 fu k49 x1 x2 x3 M) := by
  unfold F_X0_sweep_b117
  refine Fr.ite ?_ ?_
  · exact fr_X0_sweep_b138 fu hk49 _ _ hm
  · refine Fr.ite ?_ ?_
    · exact fr_X0_sweep_b138 fu hk49 _ _ hm
    · refine Fr.ite ?_ ?_
      · exact fr_X0_sweep_b138 fu hk49 _ _ (hm.setf (by first | decide | simp [xin]))
      · exact fr_X0_sweep_b138 fu hk49 _ _ hm
theorem fr_X0_sweep_b96 {M0 : xM} (fu : Nat)   {k49 : Int32 → xM → Option (xM)} (hk49 : ∀ (b0 : Int32) (M : xM), xfr wr_X0_sweep M0 M → Fr wr_X0_sweep M0 id (k49 b0 M)) (x1 : Int32) (x2 : Int32) (x3 : Int32) (M : xM) (hm : xfr wr_X0_sweep M0 M) : Fr wr_X0_sweep M0 id (F_X0_sweep_b96 fu k49 x1 x2 x3 M) := by
  unfold F_X0_sweep_b96
  refine Fr.ite ?_ ?_
  · refine Fr.ite ?_ ?_
    · refine Fr.ite ?_ ?_
      · exact fr_X0_sweep_b117 fu hk49 _ _ _ _ (hm.setf (by first | decide | simp [xin]))
      · exact fr_X0_sweep_b117 fu hk49 _ _ _ _ hm
    · exact fr_X0_sweep_b117 fu hk49 _ _ _ _ hm
  · exact fr_X0_sweep_b117 fu hk49 _ _ _ _ hm
theorem fr_X0_sweep_b49 {M0 : xM} (fu : Nat)    : ∀ (n : Nat) (x1 : Int32) (M : xM), xfr wr_X0_sweep M0 M → Fr wr_X0_sweep M0 id (F_X0_sweep_b49 fu n x1 M) := by
  intro n
  induction n with
  | zero =>
    intro x1 M hm
    exact Fr.none
  | succ n ih =>
    intro x1 M hm
    rw [F_X0_sweep_b49]
    refine Fr.ite ?_ ?_
    · refine Fr.bind (fr_X0_fewestStraps fu  _) (by first | decide | simp [xwsub]) hm (fun q1 hm_q1 => ?_)
      exact Fr.somev ((hm_q1.setf (by first | decide | simp [xin])).setf (by first | decide | simp [xin]))
    · refine Fr.bind (fr_X0_strapsAgainst fu _ _ _) (by first | decide | simp [xwsub]) hm (fun q2 hm_q2 => ?_)
      refine Fr.bind (fr_X0_isLawful fu _ _) (by first | decide | simp [xwsub]) hm_q2 (fun q3 hm_q3 => ?_)
      refine Fr.bind (fr_X1_put _ _ _ _ _) (by first | decide | simp [xwsub]) hm_q3 (fun q4 hm_q4 => ?_)
      refine Fr.ite ?_ ?_
      · exact fr_X0_sweep_b96 fu ih _ _ _ _ (hm_q4.setf (by first | decide | simp [xin]))
      · exact fr_X0_sweep_b96 fu ih _ _ _ _ hm_q4
theorem fr_X0_sweep_b25 {M0 : xM} (fu : Nat)    : ∀ (n : Nat) (x1 : Int32) (M : xM), xfr wr_X0_sweep M0 M → Fr wr_X0_sweep M0 id (F_X0_sweep_b25 fu n x1 M) := by
  intro n
  induction n with
  | zero =>
    intro x1 M hm
    exact Fr.none
  | succ n ih =>
    intro x1 M hm
    rw [F_X0_sweep_b25]
    refine Fr.ite ?_ ?_
    · exact fr_X0_sweep_b49 fu  fu _ _ hm
    · refine Fr.ite Fr.none ?_
      exact ih _ _ (hm.seta (by first | decide | simp))
theorem fr_X0_sweep_b0 {M0 : xM} (fu : Nat)     (M : xM) (hm : xfr wr_X0_sweep M0 M) : Fr wr_X0_sweep M0 id (F_X0_sweep fu  M) := by
  unfold F_X0_sweep
  refine Fr.ite ?_ ?_
  · exact Fr.somev hm
  · exact fr_X0_sweep_b25 fu  fu _ _ (((hm.setf (by first | decide | simp [xin])).setf (by first | decide | simp [xin])).setf (by first | decide | simp [xin]))
theorem fr_X0_sweep (fu : Nat)   (M : xM) : Fr wr_X0_sweep M id (F_X0_sweep fu   M) := fr_X0_sweep_b0 fu  M xfr.rf
abbrev wr_X0_beatingRow : List (Nat × Option Nat) := [(1, some 8), (1, some 9), (1, some 10), (1, some 11), (1, some 12), (15, none)]
theorem fr_X0_beatingRow_b0 {M0 : xM} (fu : Nat)     (M : xM) (hm : xfr wr_X0_beatingRow M0 M) : Fr wr_X0_beatingRow M0 Prod.snd (F_X0_beatingRow fu  M) := by
  unfold F_X0_beatingRow
  refine Fr.bind (fr_X0_sweep fu  _) (by first | decide | simp [xwsub]) hm (fun q1 hm_q1 => ?_)
  exact Fr.some hm_q1
theorem fr_X0_beatingRow (fu : Nat)   (M : xM) : Fr wr_X0_beatingRow M Prod.snd (F_X0_beatingRow fu   M) := fr_X0_beatingRow_b0 fu  M xfr.rf
abbrev wr_X0_barredRow : List (Nat × Option Nat) := [(1, some 8), (1, some 9), (1, some 10), (1, some 11), (1, some 12), (15, none)]
theorem fr_X0_barredRow_b0 {M0 : xM} (fu : Nat)     (M : xM) (hm : xfr wr_X0_barredRow M0 M) : Fr wr_X0_barredRow M0 Prod.snd (F_X0_barredRow fu  M) := by
  unfold F_X0_barredRow
  refine Fr.bind (fr_X0_sweep fu  _) (by first | decide | simp [xwsub]) hm (fun q1 hm_q1 => ?_)
  exact Fr.some hm_q1
theorem fr_X0_barredRow (fu : Nat)   (M : xM) : Fr wr_X0_barredRow M Prod.snd (F_X0_barredRow fu   M) := fr_X0_barredRow_b0 fu  M xfr.rf
abbrev wr_X0_letRows : List (Nat × Option Nat) := [(1, some 8), (1, some 9), (1, some 10), (1, some 11), (1, some 12), (15, none)]
theorem fr_X0_letRows_b0 {M0 : xM} (fu : Nat)     (M : xM) (hm : xfr wr_X0_letRows M0 M) : Fr wr_X0_letRows M0 Prod.snd (F_X0_letRows fu  M) := by
  unfold F_X0_letRows
  refine Fr.bind (fr_X0_sweep fu  _) (by first | decide | simp [xwsub]) hm (fun q1 hm_q1 => ?_)
  exact Fr.some hm_q1
theorem fr_X0_letRows (fu : Nat)   (M : xM) : Fr wr_X0_letRows M Prod.snd (F_X0_letRows fu   M) := fr_X0_letRows_b0 fu  M xfr.rf
abbrev wr_X0_neededStraps : List (Nat × Option Nat) := [(1, some 8), (1, some 9), (1, some 10), (1, some 11), (1, some 12), (15, none)]
theorem fr_X0_neededStraps_b0 {M0 : xM} (fu : Nat)     (M : xM) (hm : xfr wr_X0_neededStraps M0 M) : Fr wr_X0_neededStraps M0 Prod.snd (F_X0_neededStraps fu  M) := by
  unfold F_X0_neededStraps
  refine Fr.bind (fr_X0_sweep fu  _) (by first | decide | simp [xwsub]) hm (fun q1 hm_q1 => ?_)
  exact Fr.some hm_q1
theorem fr_X0_neededStraps (fu : Nat)   (M : xM) : Fr wr_X0_neededStraps M Prod.snd (F_X0_neededStraps fu   M) := fr_X0_neededStraps_b0 fu  M xfr.rf
abbrev wr_X0_waysToPull : List (Nat × Option Nat) := []
theorem fr_X0_waysToPull_b33 {M0 : xM} (fu : Nat)  (x1 : Int32)  : ∀ (n : Nat) (x2 : Int32) (x3 : Int32) (M : xM), xfr wr_X0_waysToPull M0 M → Fr wr_X0_waysToPull M0 Prod.snd (F_X0_waysToPull_b33 fu x1 n x2 x3 M) := by
  intro n
  induction n with
  | zero =>
    intro x2 x3 M hm
    exact Fr.none
  | succ n ih =>
    intro x2 x3 M hm
    rw [F_X0_waysToPull_b33]
    refine Fr.ite ?_ ?_
    · exact Fr.some hm
    · exact ih _ _ _ hm
theorem fr_X0_waysToPull_b0 {M0 : xM} (fu : Nat)  (x1 : Int32)   (M : xM) (hm : xfr wr_X0_waysToPull M0 M) : Fr wr_X0_waysToPull M0 Prod.snd (F_X0_waysToPull fu x1  M) := by
  unfold F_X0_waysToPull
  refine Fr.ite ?_ ?_
  · exact Fr.some hm
  · refine Fr.ite ?_ ?_
    · refine Fr.bind (fr_X0_isLet fu _ _) (by first | decide | simp [xwsub]) hm (fun q1 hm_q1 => ?_)
      refine Fr.ite ?_ ?_
      · exact Fr.some hm_q1
      · exact fr_X0_waysToPull_b33 fu x1  fu _ _ _ hm_q1
    · exact Fr.some hm
theorem fr_X0_waysToPull (fu : Nat)  (x1 : Int32) (M : xM) : Fr wr_X0_waysToPull M Prod.snd (F_X0_waysToPull fu x1  M) := fr_X0_waysToPull_b0 fu x1  M xfr.rf
abbrev wr_X0_shuffle : List (Nat × Option Nat) := [(16, none)]
theorem fr_X0_shuffle_b42 {M0 : xM} (fu : Nat)  (x1 : Int32) (x2 : Int64) {k6 : Int32 → Int32 → xM → Option (Int32 × xM)} (hk6 : ∀ (b0 : Int32) (b1 : Int32) (M : xM), xfr wr_X0_shuffle M0 M → Fr wr_X0_shuffle M0 Prod.snd (k6 b0 b1 M)) (x4 : Int32) (x5 : Int32) (M : xM) (hm : xfr wr_X0_shuffle M0 M) : Fr wr_X0_shuffle M0 Prod.snd (F_X0_shuffle_b42 fu x1 x2 k6 x4 x5 M) := by
  unfold F_X0_shuffle_b42
  exact hk6 _ _ _ hm
theorem fr_X0_shuffle_b57 {M0 : xM} (fu : Nat)  (x1 : Int32) (x2 : Int64)  : ∀ (n : Nat) (x4 : Int32) (x5 : Int64) (x7 : Int32) (M : xM), xfr wr_X0_shuffle M0 M → Fr wr_X0_shuffle M0 Prod.snd (F_X0_shuffle_b57 fu x1 x2 n x4 x5 x7 M) := by
  intro n
  induction n with
  | zero =>
    intro x4 x5 x7 M hm
    exact Fr.none
  | succ n ih =>
    intro x4 x5 x7 M hm
    rw [F_X0_shuffle_b57]
    refine Fr.ite ?_ ?_
    · exact Fr.some hm
    · refine Fr.ite Fr.none ?_
      refine Fr.bind (fr_X1_swap _ _ _ _ _) (by first | decide | simp [xwsub]) hm (fun q1 hm_q1 => ?_)
      exact ih _ _ _ _ hm_q1
theorem fr_X0_shuffle_b6 {M0 : xM} (fu : Nat)  (x1 : Int32) (x2 : Int64)  : ∀ (n : Nat) (x4 : Int32) (x5 : Int32) (M : xM), xfr wr_X0_shuffle M0 M → Fr wr_X0_shuffle M0 Prod.snd (F_X0_shuffle_b6 fu x1 x2 n x4 x5 M) := by
  intro n
  induction n with
  | zero =>
    intro x4 x5 M hm
    exact Fr.none
  | succ n ih =>
    intro x4 x5 M hm
    rw [F_X0_shuffle_b6]
    refine Fr.ite ?_ ?_
    · exact fr_X0_shuffle_b57 fu x1 x2  fu _ _ _ _ hm
    · refine Fr.ite ?_ ?_
      · exact fr_X0_shuffle_b42 fu x1 x2 ih _ _ _ hm
      · refine Fr.bind (fr_X1_put _ _ _ _ _) (by first | decide | simp [xwsub]) hm (fun q1 hm_q1 => ?_)
        exact fr_X0_shuffle_b42 fu x1 x2 ih _ _ _ hm_q1
theorem fr_X0_shuffle_b0 {M0 : xM} (fu : Nat)  (x1 : Int32) (x2 : Int64)   (M : xM) (hm : xfr wr_X0_shuffle M0 M) : Fr wr_X0_shuffle M0 Prod.snd (F_X0_shuffle fu x1 x2  M) := by
  unfold F_X0_shuffle
  exact fr_X0_shuffle_b6 fu x1 x2  fu _ _ _ hm
theorem fr_X0_shuffle (fu : Nat)  (x1 : Int32) (x2 : Int64) (M : xM) : Fr wr_X0_shuffle M Prod.snd (F_X0_shuffle fu x1 x2  M) := fr_X0_shuffle_b0 fu x1 x2  M xfr.rf
abbrev wr_X9_bytesIn : List (Nat × Option Nat) := []
theorem fr_X9_bytesIn_b22 {M0 : xM} (fu : Nat)  (x0 : Int32) {k5 : Int32 → Int32 → xM → Option (Int32 × xM)} (hk5 : ∀ (b0 : Int32) (b1 : Int32) (M : xM), xfr wr_X9_bytesIn M0 M → Fr wr_X9_bytesIn M0 Prod.snd (k5 b0 b1 M)) (x1 : Int32) (x2 : Int32) (M : xM) (hm : xfr wr_X9_bytesIn M0 M) : Fr wr_X9_bytesIn M0 Prod.snd (F_X9_bytesIn_b22 fu x0 k5 x1 x2 M) := by
  unfold F_X9_bytesIn_b22
  exact hk5 _ _ _ hm
theorem fr_X9_bytesIn_b5 {M0 : xM} (fu : Nat)  (x0 : Int32)  : ∀ (n : Nat) (x1 : Int32) (x2 : Int32) (M : xM), xfr wr_X9_bytesIn M0 M → Fr wr_X9_bytesIn M0 Prod.snd (F_X9_bytesIn_b5 fu x0 n x1 x2 M) := by
  intro n
  induction n with
  | zero =>
    intro x1 x2 M hm
    exact Fr.none
  | succ n ih =>
    intro x1 x2 M hm
    rw [F_X9_bytesIn_b5]
    refine Fr.ite ?_ ?_
    · exact Fr.some hm
    · refine Fr.ite ?_ ?_
      · exact fr_X9_bytesIn_b22 fu x0 ih _ _ _ hm
      · exact fr_X9_bytesIn_b22 fu x0 ih _ _ _ hm
theorem fr_X9_bytesIn_b0 {M0 : xM} (fu : Nat)  (x0 : Int32)   (M : xM) (hm : xfr wr_X9_bytesIn M0 M) : Fr wr_X9_bytesIn M0 Prod.snd (F_X9_bytesIn fu x0  M) := by
  unfold F_X9_bytesIn
  exact fr_X9_bytesIn_b5 fu x0  fu _ _ _ hm
theorem fr_X9_bytesIn (fu : Nat)  (x0 : Int32) (M : xM) : Fr wr_X9_bytesIn M Prod.snd (F_X9_bytesIn fu x0  M) := fr_X9_bytesIn_b0 fu x0  M xfr.rf
abbrev wr_X9_append : List (Nat × Option Nat) := [(17, none), (2, some 1)]
theorem fr_X9_append_b50 {M0 : xM} (fu : Nat)  (x1 : Int32) {k3 : Int32 → xM → Option (xM)} (hk3 : ∀ (b0 : Int32) (M : xM), xfr wr_X9_append M0 M → Fr wr_X9_append M0 id (k3 b0 M)) (x2 : Int32) (M : xM) (hm : xfr wr_X9_append M0 M) : Fr wr_X9_append M0 id (F_X9_append_b50 fu x1 k3 x2 M) := by
  unfold F_X9_append_b50
  exact hk3 _ _ hm
theorem fr_X9_append_b3 {M0 : xM} (fu : Nat)  (x1 : Int32)  : ∀ (n : Nat) (x2 : Int32) (M : xM), xfr wr_X9_append M0 M → Fr wr_X9_append M0 id (F_X9_append_b3 fu x1 n x2 M) := by
  intro n
  induction n with
  | zero =>
    intro x2 M hm
    exact Fr.none
  | succ n ih =>
    intro x2 M hm
    rw [F_X9_append_b3]
    refine Fr.ite ?_ ?_
    · exact Fr.somev hm
    · refine Fr.ite ?_ ?_
      · exact fr_X9_append_b50 fu x1 ih _ _ hm
      · refine Fr.ite ?_ ?_
        · exact fr_X9_append_b50 fu x1 ih _ _ hm
        · refine Fr.bind (fr_X1_put _ _ _ _ _) (by first | decide | simp [xwsub]) hm (fun q1 hm_q1 => ?_)
          exact fr_X9_append_b50 fu x1 ih _ _ (hm_q1.setf (by first | decide | simp [xin]))
theorem fr_X9_append_b0 {M0 : xM} (fu : Nat)  (x1 : Int32)   (M : xM) (hm : xfr wr_X9_append M0 M) : Fr wr_X9_append M0 id (F_X9_append fu x1  M) := by
  unfold F_X9_append
  exact fr_X9_append_b3 fu x1  fu _ _ hm
theorem fr_X9_append (fu : Nat)  (x1 : Int32) (M : xM) : Fr wr_X9_append M id (F_X9_append fu x1  M) := fr_X9_append_b0 fu x1  M xfr.rf
abbrev wr_X9_isWord : List (Nat × Option Nat) := []
theorem fr_X9_isWord_b69 {M0 : xM} (fu : Nat)  (x1 : Int32) {k17 : Int32 → xM → Option (Int32 × xM)} (hk17 : ∀ (b0 : Int32) (M : xM), xfr wr_X9_isWord M0 M → Fr wr_X9_isWord M0 Prod.snd (k17 b0 M)) (x2 : Int32) (M : xM) (hm : xfr wr_X9_isWord M0 M) : Fr wr_X9_isWord M0 Prod.snd (F_X9_isWord_b69 fu x1 k17 x2 M) := by
  unfold F_X9_isWord_b69
  exact hk17 _ _ hm
theorem fr_X9_isWord_b49 {M0 : xM} (fu : Nat)  (x1 : Int32) {k17 : Int32 → xM → Option (Int32 × xM)} (hk17 : ∀ (b0 : Int32) (M : xM), xfr wr_X9_isWord M0 M → Fr wr_X9_isWord M0 Prod.snd (k17 b0 M)) (x2 : Int32) (x3 : Int32) (s0 : Int32) (M : xM) (hm : xfr wr_X9_isWord M0 M) : Fr wr_X9_isWord M0 Prod.snd (F_X9_isWord_b49 fu x1 k17 x2 x3 s0 M) := by
  unfold F_X9_isWord_b49
  refine Fr.ite ?_ ?_
  · refine Fr.ite ?_ ?_
    · exact Fr.some hm
    · exact fr_X9_isWord_b69 fu x1 hk17 _ _ hm
  · exact fr_X9_isWord_b69 fu x1 hk17 _ _ hm
theorem fr_X9_isWord_b48 {M0 : xM} (fu : Nat)  (x1 : Int32) {k17 : Int32 → xM → Option (Int32 × xM)} (hk17 : ∀ (b0 : Int32) (M : xM), xfr wr_X9_isWord M0 M → Fr wr_X9_isWord M0 Prod.snd (k17 b0 M)) (x2 : Int32) (x3 : Int32) (M : xM) (hm : xfr wr_X9_isWord M0 M) : Fr wr_X9_isWord M0 Prod.snd (F_X9_isWord_b48 fu x1 k17 x2 x3 M) := by
  unfold F_X9_isWord_b48
  exact fr_X9_isWord_b49 fu x1 hk17 _ _ _ _ hm
theorem fr_X9_isWord_b17 {M0 : xM} (fu : Nat)  (x1 : Int32)  : ∀ (n : Nat) (x2 : Int32) (M : xM), xfr wr_X9_isWord M0 M → Fr wr_X9_isWord M0 Prod.snd (F_X9_isWord_b17 fu x1 n x2 M) := by
  intro n
  induction n with
  | zero =>
    intro x2 M hm
    exact Fr.none
  | succ n ih =>
    intro x2 M hm
    rw [F_X9_isWord_b17]
    refine Fr.ite ?_ ?_
    · exact Fr.some hm
    · refine Fr.ite ?_ ?_
      · exact fr_X9_isWord_b48 fu x1 ih _ _ _ hm
      · refine Fr.ite ?_ ?_
        · exact fr_X9_isWord_b49 fu x1 ih _ _ _ _ hm
        · exact fr_X9_isWord_b48 fu x1 ih _ _ _ hm
theorem fr_X9_isWord_b0 {M0 : xM} (fu : Nat)  (x1 : Int32)   (M : xM) (hm : xfr wr_X9_isWord M0 M) : Fr wr_X9_isWord M0 Prod.snd (F_X9_isWord fu x1  M) := by
  unfold F_X9_isWord
  refine Fr.ite ?_ ?_
  · exact Fr.some hm
  · exact fr_X9_isWord_b17 fu x1  fu _ _ hm
theorem fr_X9_isWord (fu : Nat)  (x1 : Int32) (M : xM) : Fr wr_X9_isWord M Prod.snd (F_X9_isWord fu x1  M) := fr_X9_isWord_b0 fu x1  M xfr.rf
abbrev wr_X9_copyTo (r1 : Nat) : List (Nat × Option Nat) := [(r1, none)]
theorem fr_X9_copyTo_b2 {M0 : xM} (fu : Nat)  (r1 n1 : Nat) (x2 : Int32)  : ∀ (n : Nat) (x3 : Int32) (M : xM), xfr (wr_X9_copyTo r1) M0 M → Fr (wr_X9_copyTo r1) M0 id (F_X9_copyTo_b2 fu r1 n1 x2 n x3 M) := by
  intro n
  induction n with
  | zero =>
    intro x3 M hm
    exact Fr.none
  | succ n ih =>
    intro x3 M hm
    rw [F_X9_copyTo_b2]
    refine Fr.ite ?_ ?_
    · exact Fr.somev hm
    · refine Fr.bind (fr_X1_put _ _ _ _ _) (by first | decide | simp [xwsub]) hm (fun q1 hm_q1 => ?_)
      exact ih _ _ hm_q1
theorem fr_X9_copyTo_b0 {M0 : xM} (fu : Nat)  (r1 n1 : Nat) (x2 : Int32)   (M : xM) (hm : xfr (wr_X9_copyTo r1) M0 M) : Fr (wr_X9_copyTo r1) M0 id (F_X9_copyTo fu r1 n1 x2  M) := by
  unfold F_X9_copyTo
  exact fr_X9_copyTo_b2 fu r1 n1 x2  fu _ _ hm
theorem fr_X9_copyTo (fu : Nat)  (r1 n1 : Nat) (x2 : Int32) (M : xM) : Fr (wr_X9_copyTo r1) M id (F_X9_copyTo fu r1 n1 x2  M) := fr_X9_copyTo_b0 fu r1 n1 x2  M xfr.rf
abbrev wr_X3_layText : List (Nat × Option Nat) := [(20, none), (4, some 3)]
theorem fr_X3_layText_b17 {M0 : xM} (fu : Nat)  (r1 n1 : Nat) (x2 : Int32) (x3 : Int32)  : ∀ (n : Nat) (x4 : Int32) (M : xM), xfr wr_X3_layText M0 M → Fr wr_X3_layText M0 id (F_X3_layText_b17 fu r1 n1 x2 x3 n x4 M) := by
  intro n
  induction n with
  | zero =>
    intro x4 M hm
    exact Fr.none
  | succ n ih =>
    intro x4 M hm
    rw [F_X3_layText_b17]
    refine Fr.ite ?_ ?_
    · exact Fr.somev hm
    · refine Fr.bind (fr_X1_put _ _ _ _ _) (by first | decide | simp [xwsub]) hm (fun q1 hm_q1 => ?_)
      exact ih _ _ hm_q1
theorem fr_X3_layText_b0 {M0 : xM} (fu : Nat)  (r1 n1 : Nat) (x2 : Int32) (x3 : Int32)   (M : xM) (hm : xfr wr_X3_layText M0 M) : Fr wr_X3_layText M0 id (F_X3_layText fu r1 n1 x2 x3  M) := by
  unfold F_X3_layText
  exact fr_X3_layText_b17 fu r1 n1 x2 x3  fu _ _ (hm.setf (by first | decide | simp [xin]))
theorem fr_X3_layText (fu : Nat)  (r1 n1 : Nat) (x2 : Int32) (x3 : Int32) (M : xM) : Fr wr_X3_layText M id (F_X3_layText fu r1 n1 x2 x3  M) := fr_X3_layText_b0 fu r1 n1 x2 x3  M xfr.rf
abbrev wr_X3_layBooks : List (Nat × Option Nat) := [(21, none)]
theorem fr_X3_layBooks_b2 {M0 : xM} (fu : Nat)  (r1 n1 : Nat) (x2 : Int32)  : ∀ (n : Nat) (x3 : Int32) (M : xM), xfr wr_X3_layBooks M0 M → Fr wr_X3_layBooks M0 id (F_X3_layBooks_b2 fu r1 n1 x2 n x3 M) := by
  intro n
  induction n with
  | zero =>
    intro x3 M hm
    exact Fr.none
  | succ n ih =>
    intro x3 M hm
    rw [F_X3_layBooks_b2]
    refine Fr.ite ?_ ?_
    · exact Fr.somev hm
    · refine Fr.bind (fr_X1_put _ _ _ _ _) (by first | decide | simp [xwsub]) hm (fun q1 hm_q1 => ?_)
      exact ih _ _ hm_q1
theorem fr_X3_layBooks_b0 {M0 : xM} (fu : Nat)  (r1 n1 : Nat) (x2 : Int32)   (M : xM) (hm : xfr wr_X3_layBooks M0 M) : Fr wr_X3_layBooks M0 id (F_X3_layBooks fu r1 n1 x2  M) := by
  unfold F_X3_layBooks
  exact fr_X3_layBooks_b2 fu r1 n1 x2  fu _ _ hm
theorem fr_X3_layBooks (fu : Nat)  (r1 n1 : Nat) (x2 : Int32) (M : xM) : Fr wr_X3_layBooks M id (F_X3_layBooks fu r1 n1 x2  M) := fr_X3_layBooks_b0 fu r1 n1 x2  M xfr.rf
abbrev wr_X3_next : List (Nat × Option Nat) := [(4, some 4)]
theorem fr_X3_next_b10 {M0 : xM} (fu : Nat)    : ∀ (n : Nat)  (M : xM), xfr wr_X3_next M0 M → Fr wr_X3_next M0 Prod.snd (F_X3_next_b10 fu n  M) := by
  intro n
  induction n with
  | zero =>
    intro  M hm
    exact Fr.none
  | succ n ih =>
    intro  M hm
    rw [F_X3_next_b10]
    refine Fr.ite ?_ ?_
    · exact Fr.some hm
    · refine Fr.ite ?_ ?_
      · exact Fr.some hm
      · refine Fr.ite ?_ ?_
        · exact Fr.some hm
        · refine Fr.ite Fr.none ?_
          refine Fr.ite ?_ ?_
          · exact ih  _ (hm.setf (by first | decide | simp [xin]))
          · refine Fr.ite Fr.none ?_
            exact Fr.some hm
theorem fr_X3_next_b0 {M0 : xM} (fu : Nat)     (M : xM) (hm : xfr wr_X3_next M0 M) : Fr wr_X3_next M0 Prod.snd (F_X3_next fu  M) := by
  unfold F_X3_next
  refine Fr.ite ?_ ?_
  · exact fr_X3_next_b10 fu  fu  _ hm
  · exact Fr.some hm
theorem fr_X3_next (fu : Nat)   (M : xM) : Fr wr_X3_next M Prod.snd (F_X3_next fu   M) := fr_X3_next_b0 fu  M xfr.rf
abbrev wr_X3_stop : List (Nat × Option Nat) := [(4, some 0)]
theorem fr_X3_stop_b0 {M0 : xM}     (M : xM) (hm : xfr wr_X3_stop M0 M) : Fr wr_X3_stop M0 id (F_X3_stop   M) := by
  unfold F_X3_stop
  refine Fr.ite ?_ ?_
  · exact Fr.somev (hm.setf (by first | decide | simp [xin]))
  · exact Fr.somev hm
theorem fr_X3_stop   (M : xM) : Fr wr_X3_stop M id (F_X3_stop    M) := fr_X3_stop_b0   M xfr.rf
abbrev wr_X3_expect : List (Nat × Option Nat) := [(4, some 0), (4, some 4)]
theorem fr_X3_expect_b0 {M0 : xM} (fu : Nat)  (x1 : Int32)   (M : xM) (hm : xfr wr_X3_expect M0 M) : Fr wr_X3_expect M0 id (F_X3_expect fu x1  M) := by
  unfold F_X3_expect
  refine Fr.bind (fr_X3_next fu  _) (by first | decide | simp [xwsub]) hm (fun q1 hm_q1 => ?_)
  refine Fr.ite ?_ ?_
  · exact Fr.somev (hm_q1.setf (by first | decide | simp [xin]))
  · refine Fr.bind (fr_X3_stop  _) (by first | decide | simp [xwsub]) hm_q1 (fun q2 hm_q2 => ?_)
    exact Fr.somev hm_q2
theorem fr_X3_expect (fu : Nat)  (x1 : Int32) (M : xM) : Fr wr_X3_expect M id (F_X3_expect fu x1  M) := fr_X3_expect_b0 fu x1  M xfr.rf
abbrev wr_X3_reckoned : List (Nat × Option Nat) := []
theorem fr_X3_reckoned_b58 {M0 : xM}  (x0 : Int32) (x1 : Int32) (x2 : Int32)  (x3 : Int64) (M : xM) (hm : xfr wr_X3_reckoned M0 M) : Fr wr_X3_reckoned M0 Prod.snd (F_X3_reckoned_b58 x0 x1 x2 x3 M) := by
  unfold F_X3_reckoned_b58
  exact Fr.some hm
theorem fr_X3_reckoned_b57 {M0 : xM}  (x0 : Int32) (x1 : Int32) (x2 : Int32)  (s0 : Int64) (M : xM) (hm : xfr wr_X3_reckoned M0 M) : Fr wr_X3_reckoned M0 Prod.snd (F_X3_reckoned_b57 x0 x1 x2 s0 M) := by
  unfold F_X3_reckoned_b57
  exact fr_X3_reckoned_b58 x0 x1 x2  _ _ hm
theorem fr_X3_reckoned_b0 {M0 : xM}  (x0 : Int32) (x1 : Int32) (x2 : Int32)   (M : xM) (hm : xfr wr_X3_reckoned M0 M) : Fr wr_X3_reckoned M0 Prod.snd (F_X3_reckoned x0 x1 x2  M) := by
  unfold F_X3_reckoned
  refine Fr.ite ?_ ?_
  · exact fr_X3_reckoned_b58 x0 x1 x2  _ _ hm
  · refine Fr.ite ?_ ?_
    · exact fr_X3_reckoned_b58 x0 x1 x2  _ _ hm
    · refine Fr.ite ?_ ?_
      · exact fr_X3_reckoned_b58 x0 x1 x2  _ _ hm
      · refine Fr.ite ?_ ?_
        · exact fr_X3_reckoned_b57 x0 x1 x2  _ _ hm
        · refine Fr.ite Fr.none ?_
          exact fr_X3_reckoned_b57 x0 x1 x2  _ _ hm
theorem fr_X3_reckoned  (x0 : Int32) (x1 : Int32) (x2 : Int32) (M : xM) : Fr wr_X3_reckoned M Prod.snd (F_X3_reckoned  x0 x1 x2  M) := fr_X3_reckoned_b0 x0 x1 x2  M xfr.rf
abbrev wr_X3_goesDeeper : List (Nat × Option Nat) := [(4, some 0), (4, some 4)]
theorem fr_X3_goesDeeper_b0 {M0 : xM}  (x1 : Int32)   (M : xM) (hm : xfr wr_X3_goesDeeper M0 M) : Fr wr_X3_goesDeeper M0 Prod.snd (F_X3_goesDeeper x1  M) := by
  unfold F_X3_goesDeeper
  refine Fr.ite ?_ ?_
  · exact Fr.some (hm.setf (by first | decide | simp [xin]))
  · refine Fr.bind (fr_X3_stop  _) (by first | decide | simp [xwsub]) hm (fun q1 hm_q1 => ?_)
    exact Fr.some hm_q1
theorem fr_X3_goesDeeper  (x1 : Int32) (M : xM) : Fr wr_X3_goesDeeper M Prod.snd (F_X3_goesDeeper  x1  M) := fr_X3_goesDeeper_b0 x1  M xfr.rf
abbrev wr_X3_digits : List (Nat × Option Nat) := [(4, some 4)]
theorem fr_X3_digits_b35 {M0 : xM} (fu : Nat)   {k4 : Int32 → Int32 → xM → Option (Int32 × xM)} (hk4 : ∀ (b0 : Int32) (b1 : Int32) (M : xM), xfr wr_X3_digits M0 M → Fr wr_X3_digits M0 Prod.snd (k4 b0 b1 M)) (x1 : Int32) (x2 : Int32) (s0 : Int32) (M : xM) (hm : xfr wr_X3_digits M0 M) : Fr wr_X3_digits M0 Prod.snd (F_X3_digits_b35 fu k4 x1 x2 s0 M) := by
  unfold F_X3_digits_b35
  refine Fr.ite ?_ ?_
  · exact Fr.some hm
  · exact hk4 _ _ _ (hm.setf (by first | decide | simp [xin]))
theorem fr_X3_digits_b4 {M0 : xM} (fu : Nat)    : ∀ (n : Nat) (x1 : Int32) (x2 : Int32) (M : xM), xfr wr_X3_digits M0 M → Fr wr_X3_digits M0 Prod.snd (F_X3_digits_b4 fu n x1 x2 M) := by
  intro n
  induction n with
  | zero =>
    intro x1 x2 M hm
    exact Fr.none
  | succ n ih =>
    intro x1 x2 M hm
    rw [F_X3_digits_b4]
    refine Fr.ite ?_ ?_
    · exact Fr.some hm
    · refine Fr.ite ?_ ?_
      · exact fr_X3_digits_b35 fu ih _ _ _ _ hm
      · exact fr_X3_digits_b35 fu ih _ _ _ _ hm
theorem fr_X3_digits_b0 {M0 : xM} (fu : Nat)     (M : xM) (hm : xfr wr_X3_digits M0 M) : Fr wr_X3_digits M0 Prod.snd (F_X3_digits fu  M) := by
  unfold F_X3_digits
  exact fr_X3_digits_b4 fu  fu _ _ _ hm
theorem fr_X3_digits (fu : Nat)   (M : xM) : Fr wr_X3_digits M Prod.snd (F_X3_digits fu   M) := fr_X3_digits_b0 fu  M xfr.rf
abbrev wr_X3_sum : List (Nat × Option Nat) := [(4, some 0), (4, some 4)]
abbrev wr_X3_atom : List (Nat × Option Nat) := [(4, some 0), (4, some 4)]
theorem fr_X3_sum_b127 {M0 : xM} (fu : Nat) (g_sum : Int32 → xM → Option (Int32 × xM)) (g_atom : Int32 → xM → Option (Int32 × xM)) (hf_sum : ∀ (a0 : Int32) (M : xM), Fr wr_X3_sum M Prod.snd (g_sum a0 M)) (hf_atom : ∀ (a0 : Int32) (M : xM), Fr wr_X3_atom M Prod.snd (g_atom a0 M)) (x1 : Int32)  (x2 : Int32) (x3 : Int32) (x4 : Int32) (M : xM) (hm : xfr wr_X3_sum M0 M) : Fr wr_X3_sum M0 Prod.snd (F_X3_sum_b127 fu g_sum g_atom x1 x2 x3 x4 M) := by
  unfold F_X3_sum_b127
  refine Fr.bind (fr_X3_reckoned _ _ _ _) (by first | decide | simp [xwsub]) hm (fun q1 hm_q1 => ?_)
  exact Fr.some hm_q1
theorem fr_X3_sum_b121 {M0 : xM} (fu : Nat) (g_sum : Int32 → xM → Option (Int32 × xM)) (g_atom : Int32 → xM → Option (Int32 × xM)) (hf_sum : ∀ (a0 : Int32) (M : xM), Fr wr_X3_sum M Prod.snd (g_sum a0 M)) (hf_atom : ∀ (a0 : Int32) (M : xM), Fr wr_X3_atom M Prod.snd (g_atom a0 M)) (x1 : Int32) {k15 : Int32 → Int32 → Int32 → Int32 → xM → Option (Int32 × xM)} (hk15 : ∀ (b0 : Int32) (b1 : Int32) (b2 : Int32) (b3 : Int32) (M : xM), xfr wr_X3_sum M0 M → Fr wr_X3_sum M0 Prod.snd (k15 b0 b1 b2 b3 M)) (x2 : Int32) (x3 : Int32) (x4 : Int32) (x5 : Int32) (M : xM) (hm : xfr wr_X3_sum M0 M) : Fr wr_X3_sum M0 Prod.snd (F_X3_sum_b121 fu g_sum g_atom x1 k15 x2 x3 x4 x5 M) := by
  unfold F_X3_sum_b121
  exact hk15 _ _ _ _ _ hm
theorem fr_X3_sum_b92 {M0 : xM} (fu : Nat) (g_sum : Int32 → xM → Option (Int32 × xM)) (g_atom : Int32 → xM → Option (Int32 × xM)) (hf_sum : ∀ (a0 : Int32) (M : xM), Fr wr_X3_sum M Prod.snd (g_sum a0 M)) (hf_atom : ∀ (a0 : Int32) (M : xM), Fr wr_X3_atom M Prod.snd (g_atom a0 M)) (x1 : Int32) {k15 : Int32 → Int32 → Int32 → Int32 → xM → Option (Int32 × xM)} (hk15 : ∀ (b0 : Int32) (b1 : Int32) (b2 : Int32) (b3 : Int32) (M : xM), xfr wr_X3_sum M0 M → Fr wr_X3_sum M0 Prod.snd (k15 b0 b1 b2 b3 M)) (x2 : Int32) (x3 : Int32) (x4 : Int32) (x5 : Int32) (x6 : Int32) (x7 : Int32) (M : xM) (hm : xfr wr_X3_sum M0 M) : Fr wr_X3_sum M0 Prod.snd (F_X3_sum_b92 fu g_sum g_atom x1 k15 x2 x3 x4 x5 x6 x7 M) := by
  unfold F_X3_sum_b92
  refine Fr.bind (fr_X3_reckoned _ _ _ _) (by first | decide | simp [xwsub]) hm (fun q1 hm_q1 => ?_)
  exact fr_X3_sum_b121 fu g_sum g_atom hf_sum hf_atom x1 hk15 _ _ _ _ _ hm_q1
theorem fr_X3_sum_b61 {M0 : xM} (fu : Nat) (g_sum : Int32 → xM → Option (Int32 × xM)) (g_atom : Int32 → xM → Option (Int32 × xM)) (hf_sum : ∀ (a0 : Int32) (M : xM), Fr wr_X3_sum M Prod.snd (g_sum a0 M)) (hf_atom : ∀ (a0 : Int32) (M : xM), Fr wr_X3_atom M Prod.snd (g_atom a0 M)) (x1 : Int32) {k15 : Int32 → Int32 → Int32 → Int32 → xM → Option (Int32 × xM)} (hk15 : ∀ (b0 : Int32) (b1 : Int32) (b2 : Int32) (b3 : Int32) (M : xM), xfr wr_X3_sum M0 M → Fr wr_X3_sum M0 Prod.snd (k15 b0 b1 b2 b3 M)) (x2 : Int32) (x3 : Int32) (x4 : Int32) (x5 : Int32) (x6 : Int32) (M : xM) (hm : xfr wr_X3_sum M0 M) : Fr wr_X3_sum M0 Prod.snd (F_X3_sum_b61 fu g_sum g_atom x1 k15 x2 x3 x4 x5 x6 M) := by
  unfold F_X3_sum_b61
  refine Fr.bind (hf_atom _ _) (by first | decide | simp [xwsub]) (hm.setf (by first | decide | simp [xin])) (fun q1 hm_q1 => ?_)
  refine Fr.ite ?_ ?_
  · exact fr_X3_sum_b92 fu g_sum g_atom hf_sum hf_atom x1 hk15 _ _ _ _ _ _ _ hm_q1
  · refine Fr.ite ?_ ?_
    · exact fr_X3_sum_b92 fu g_sum g_atom hf_sum hf_atom x1 hk15 _ _ _ _ _ _ _ hm_q1
    · refine Fr.bind (fr_X3_reckoned _ _ _ _) (by first | decide | simp [xwsub]) hm_q1 (fun q2 hm_q2 => ?_)
      exact fr_X3_sum_b121 fu g_sum g_atom hf_sum hf_atom x1 hk15 _ _ _ _ _ hm_q2
theorem fr_X3_sum_b15 {M0 : xM} (fu : Nat) (g_sum : Int32 → xM → Option (Int32 × xM)) (g_atom : Int32 → xM → Option (Int32 × xM)) (hf_sum : ∀ (a0 : Int32) (M : xM), Fr wr_X3_sum M Prod.snd (g_sum a0 M)) (hf_atom : ∀ (a0 : Int32) (M : xM), Fr wr_X3_atom M Prod.snd (g_atom a0 M)) (x1 : Int32)  : ∀ (n : Nat) (x2 : Int32) (x3 : Int32) (x4 : Int32) (x5 : Int32) (M : xM), xfr wr_X3_sum M0 M → Fr wr_X3_sum M0 Prod.snd (F_X3_sum_b15 fu g_sum g_atom x1 n x2 x3 x4 x5 M) := by
  intro n
  induction n with
  | zero =>
    intro x2 x3 x4 x5 M hm
    exact Fr.none
  | succ n ih =>
    intro x2 x3 x4 x5 M hm
    rw [F_X3_sum_b15]
    refine Fr.ite ?_ ?_
    · exact fr_X3_sum_b127 fu g_sum g_atom hf_sum hf_atom x1  _ _ _ _ hm
    · refine Fr.bind (fr_X3_next fu  _) (by first | decide | simp [xwsub]) hm (fun q1 hm_q1 => ?_)
      refine Fr.ite ?_ ?_
      · exact fr_X3_sum_b61 fu g_sum g_atom hf_sum hf_atom x1 ih _ _ _ _ _ _ hm_q1
      · refine Fr.ite ?_ ?_
        · exact fr_X3_sum_b61 fu g_sum g_atom hf_sum hf_atom x1 ih _ _ _ _ _ _ hm_q1
        · refine Fr.ite ?_ ?_
          · exact fr_X3_sum_b61 fu g_sum g_atom hf_sum hf_atom x1 ih _ _ _ _ _ _ hm_q1
          · refine Fr.ite ?_ ?_
            · exact fr_X3_sum_b61 fu g_sum g_atom hf_sum hf_atom x1 ih _ _ _ _ _ _ hm_q1
            · exact fr_X3_sum_b127 fu g_sum g_atom hf_sum hf_atom x1  _ _ _ _ hm_q1
theorem fr_X3_sum_b0 {M0 : xM} (fu : Nat) (g_sum : Int32 → xM → Option (Int32 × xM)) (g_atom : Int32 → xM → Option (Int32 × xM)) (hf_sum : ∀ (a0 : Int32) (M : xM), Fr wr_X3_sum M Prod.snd (g_sum a0 M)) (hf_atom : ∀ (a0 : Int32) (M : xM), Fr wr_X3_atom M Prod.snd (g_atom a0 M)) (x1 : Int32)   (M : xM) (hm : xfr wr_X3_sum M0 M) : Fr wr_X3_sum M0 Prod.snd (F_X3_sum fu g_sum g_atom x1  M) := by
  unfold F_X3_sum
  refine Fr.bind (hf_atom _ _) (by first | decide | simp [xwsub]) hm (fun q1 hm_q1 => ?_)
  exact fr_X3_sum_b15 fu g_sum g_atom hf_sum hf_atom x1  fu _ _ _ _ _ hm_q1
theorem fr_X3_sum (fu : Nat) (g_sum : Int32 → xM → Option (Int32 × xM)) (g_atom : Int32 → xM → Option (Int32 × xM)) (hf_sum : ∀ (a0 : Int32) (M : xM), Fr wr_X3_sum M Prod.snd (g_sum a0 M)) (hf_atom : ∀ (a0 : Int32) (M : xM), Fr wr_X3_atom M Prod.snd (g_atom a0 M)) (x1 : Int32) (M : xM) : Fr wr_X3_sum M Prod.snd (F_X3_sum fu g_sum g_atom x1  M) := fr_X3_sum_b0 fu g_sum g_atom hf_sum hf_atom x1  M xfr.rf
theorem fr_X3_atom_b35 {M0 : xM} (fu : Nat) (g_sum : Int32 → xM → Option (Int32 × xM)) (g_atom : Int32 → xM → Option (Int32 × xM)) (hf_sum : ∀ (a0 : Int32) (M : xM), Fr wr_X3_sum M Prod.snd (g_sum a0 M)) (hf_atom : ∀ (a0 : Int32) (M : xM), Fr wr_X3_atom M Prod.snd (g_atom a0 M)) (x1 : Int32)  (x2 : Int32) (M : xM) (hm : xfr wr_X3_atom M0 M) : Fr wr_X3_atom M0 Prod.snd (F_X3_atom_b35 fu g_sum g_atom x1 x2 M) := by
  unfold F_X3_atom_b35
  refine Fr.ite ?_ ?_
  · refine Fr.ite ?_ ?_
    · refine Fr.bind (fr_X3_stop  _) (by first | decide | simp [xwsub]) hm (fun q1 hm_q1 => ?_)
      exact Fr.some hm_q1
    · exact Fr.some (hm.setf (by first | decide | simp [xin]))
  · refine Fr.bind (fr_X3_digits fu  _) (by first | decide | simp [xwsub]) hm (fun q2 hm_q2 => ?_)
    exact Fr.some hm_q2
theorem fr_X3_atom_b0 {M0 : xM} (fu : Nat) (g_sum : Int32 → xM → Option (Int32 × xM)) (g_atom : Int32 → xM → Option (Int32 × xM)) (hf_sum : ∀ (a0 : Int32) (M : xM), Fr wr_X3_sum M Prod.snd (g_sum a0 M)) (hf_atom : ∀ (a0 : Int32) (M : xM), Fr wr_X3_atom M Prod.snd (g_atom a0 M)) (x1 : Int32)   (M : xM) (hm : xfr wr_X3_atom M0 M) : Fr wr_X3_atom M0 Prod.snd (F_X3_atom fu g_sum g_atom x1  M) := by
  unfold F_X3_atom
  refine Fr.bind (fr_X3_next fu  _) (by first | decide | simp [xwsub]) hm (fun q1 hm_q1 => ?_)
  refine Fr.ite ?_ ?_
  · refine Fr.bind (fr_X3_goesDeeper _ _) (by first | decide | simp [xwsub]) hm_q1 (fun q2 hm_q2 => ?_)
    refine Fr.ite ?_ ?_
    · exact fr_X3_atom_b35 fu g_sum g_atom hf_sum hf_atom x1  _ _ hm_q2
    · refine Fr.bind (hf_sum _ _) (by first | decide | simp [xwsub]) hm_q2 (fun q3 hm_q3 => ?_)
      refine Fr.bind (fr_X3_expect fu _ _) (by first | decide | simp [xwsub]) hm_q3 (fun q4 hm_q4 => ?_)
      exact Fr.some hm_q4
  · exact fr_X3_atom_b35 fu g_sum g_atom hf_sum hf_atom x1  _ _ hm_q1
theorem fr_X3_atom (fu : Nat) (g_sum : Int32 → xM → Option (Int32 × xM)) (g_atom : Int32 → xM → Option (Int32 × xM)) (hf_sum : ∀ (a0 : Int32) (M : xM), Fr wr_X3_sum M Prod.snd (g_sum a0 M)) (hf_atom : ∀ (a0 : Int32) (M : xM), Fr wr_X3_atom M Prod.snd (g_atom a0 M)) (x1 : Int32) (M : xM) : Fr wr_X3_atom M Prod.snd (F_X3_atom fu g_sum g_atom x1  M) := fr_X3_atom_b0 fu g_sum g_atom hf_sum hf_atom x1  M xfr.rf
theorem fr_R_X3_sum_atom (fu : Nat) : ∀ n : Nat, (∀ (a0 : Int32) (M : xM), Fr wr_X3_sum M Prod.snd ((R_X3_sum_atom fu n).1 a0 M)) ∧ (∀ (a0 : Int32) (M : xM), Fr wr_X3_atom M Prod.snd ((R_X3_sum_atom fu n).2 a0 M)) := by
  intro n
  induction n with
  | zero => exact ⟨fun _ _ => Fr.none, fun _ _ => Fr.none⟩
  | succ n ih =>
    obtain ⟨h0, h1⟩ := ih
    exact ⟨fun a0 M => fr_X3_sum fu _ _ h0 h1 a0 M, fun a0 M => fr_X3_atom fu _ _ h0 h1 a0 M⟩
theorem frT_X3_sum (fu : Nat) (a0 : Int32) (M : xM) : Fr wr_X3_sum M Prod.snd (T_X3_sum fu a0 M) := (fr_R_X3_sum_atom fu 30).1 a0 M
theorem frT_X3_atom (fu : Nat) (a0 : Int32) (M : xM) : Fr wr_X3_atom M Prod.snd (T_X3_atom fu a0 M) := (fr_R_X3_sum_atom fu 30).2 a0 M
abbrev wr_X3_condition : List (Nat × Option Nat) := [(4, some 0), (4, some 4)]
abbrev wr_X3_unit : List (Nat × Option Nat) := [(4, some 0), (4, some 4)]
theorem fr_X3_condition_b130 {M0 : xM} (fu : Nat) (g_condition : Int32 → Int32 → Int32 → xM → Option (Int32 × xM)) (g_unit : Int32 → Int32 → Int32 → xM → Option (Int32 × xM)) (hf_condition : ∀ (a0 : Int32) (a1 : Int32) (a2 : Int32) (M : xM), Fr wr_X3_condition M Prod.snd (g_condition a0 a1 a2 M)) (hf_unit : ∀ (a0 : Int32) (a1 : Int32) (a2 : Int32) (M : xM), Fr wr_X3_unit M Prod.snd (g_unit a0 a1 a2 M)) (x1 : Int32) (x2 : Int32) (x3 : Int32)   (M : xM) (hm : xfr wr_X3_condition M0 M) : Fr wr_X3_condition M0 Prod.snd (F_X3_condition_b130 fu g_condition g_unit x1 x2 x3  M) := by
  unfold F_X3_condition_b130
  exact Fr.some hm
theorem fr_X3_condition_b120 {M0 : xM} (fu : Nat) (g_condition : Int32 → Int32 → Int32 → xM → Option (Int32 × xM)) (g_unit : Int32 → Int32 → Int32 → xM → Option (Int32 × xM)) (hf_condition : ∀ (a0 : Int32) (a1 : Int32) (a2 : Int32) (M : xM), Fr wr_X3_condition M Prod.snd (g_condition a0 a1 a2 M)) (hf_unit : ∀ (a0 : Int32) (a1 : Int32) (a2 : Int32) (M : xM), Fr wr_X3_unit M Prod.snd (g_unit a0 a1 a2 M)) (x1 : Int32) (x2 : Int32) (x3 : Int32)  (x4 : Int32) (x5 : Int32) (M : xM) (hm : xfr wr_X3_condition M0 M) : Fr wr_X3_condition M0 Prod.snd (F_X3_condition_b120 fu g_condition g_unit x1 x2 x3 x4 x5 M) := by
  unfold F_X3_condition_b120
  refine Fr.ite ?_ ?_
  · refine Fr.ite ?_ ?_
    · exact Fr.some hm
    · exact fr_X3_condition_b130 fu g_condition g_unit hf_condition hf_unit x1 x2 x3   _ hm
  · exact fr_X3_condition_b130 fu g_condition g_unit hf_condition hf_unit x1 x2 x3   _ hm
theorem fr_X3_condition_b114 {M0 : xM} (fu : Nat) (g_condition : Int32 → Int32 → Int32 → xM → Option (Int32 × xM)) (g_unit : Int32 → Int32 → Int32 → xM → Option (Int32 × xM)) (hf_condition : ∀ (a0 : Int32) (a1 : Int32) (a2 : Int32) (M : xM), Fr wr_X3_condition M Prod.snd (g_condition a0 a1 a2 M)) (hf_unit : ∀ (a0 : Int32) (a1 : Int32) (a2 : Int32) (M : xM), Fr wr_X3_unit M Prod.snd (g_unit a0 a1 a2 M)) (x1 : Int32) (x2 : Int32) (x3 : Int32) {k15 : Int32 → Int32 → Int32 → xM → Option (Int32 × xM)} (hk15 : ∀ (b0 : Int32) (b1 : Int32) (b2 : Int32) (M : xM), xfr wr_X3_condition M0 M → Fr wr_X3_condition M0 Prod.snd (k15 b0 b1 b2 M)) (x4 : Int32) (x5 : Int32) (x6 : Int32) (M : xM) (hm : xfr wr_X3_condition M0 M) : Fr wr_X3_condition M0 Prod.snd (F_X3_condition_b114 fu g_condition g_unit x1 x2 x3 k15 x4 x5 x6 M) := by
  unfold F_X3_condition_b114
  exact hk15 _ _ _ _ hm
theorem fr_X3_condition_b88 {M0 : xM} (fu : Nat) (g_condition : Int32 → Int32 → Int32 → xM → Option (Int32 × xM)) (g_unit : Int32 → Int32 → Int32 → xM → Option (Int32 × xM)) (hf_condition : ∀ (a0 : Int32) (a1 : Int32) (a2 : Int32) (M : xM), Fr wr_X3_condition M Prod.snd (g_condition a0 a1 a2 M)) (hf_unit : ∀ (a0 : Int32) (a1 : Int32) (a2 : Int32) (M : xM), Fr wr_X3_unit M Prod.snd (g_unit a0 a1 a2 M)) (x1 : Int32) (x2 : Int32) (x3 : Int32) {k15 : Int32 → Int32 → Int32 → xM → Option (Int32 × xM)} (hk15 : ∀ (b0 : Int32) (b1 : Int32) (b2 : Int32) (M : xM), xfr wr_X3_condition M0 M → Fr wr_X3_condition M0 Prod.snd (k15 b0 b1 b2 M)) (x4 : Int32) (x6 : Int32) (s0 : Int32) (M : xM) (hm : xfr wr_X3_condition M0 M) : Fr wr_X3_condition M0 Prod.snd (F_X3_condition_b88 fu g_condition g_unit x1 x2 x3 k15 x4 x6 s0 M) := by
  unfold F_X3_condition_b88
  exact fr_X3_condition_b114 fu g_condition g_unit hf_condition hf_unit x1 x2 x3 hk15 _ _ _ _ hm
theorem fr_X3_condition_b87 {M0 : xM} (fu : Nat) (g_condition : Int32 → Int32 → Int32 → xM → Option (Int32 × xM)) (g_unit : Int32 → Int32 → Int32 → xM → Option (Int32 × xM)) (hf_condition : ∀ (a0 : Int32) (a1 : Int32) (a2 : Int32) (M : xM), Fr wr_X3_condition M Prod.snd (g_condition a0 a1 a2 M)) (hf_unit : ∀ (a0 : Int32) (a1 : Int32) (a2 : Int32) (M : xM), Fr wr_X3_unit M Prod.snd (g_unit a0 a1 a2 M)) (x1 : Int32) (x2 : Int32) (x3 : Int32) {k15 : Int32 → Int32 → Int32 → xM → Option (Int32 × xM)} (hk15 : ∀ (b0 : Int32) (b1 : Int32) (b2 : Int32) (M : xM), xfr wr_X3_condition M0 M → Fr wr_X3_condition M0 Prod.snd (k15 b0 b1 b2 M)) (x4 : Int32) (x6 : Int32) (M : xM) (hm : xfr wr_X3_condition M0 M) : Fr wr_X3_condition M0 Prod.snd (F_X3_condition_b87 fu g_condition g_unit x1 x2 x3 k15 x4 x6 M) := by
  unfold F_X3_condition_b87
  exact fr_X3_condition_b88 fu g_condition g_unit hf_condition hf_unit x1 x2 x3 hk15 _ _ _ _ hm
theorem fr_X3_condition_b108 {M0 : xM} (fu : Nat) (g_condition : Int32 → Int32 → Int32 → xM → Option (Int32 × xM)) (g_unit : Int32 → Int32 → Int32 → xM → Option (Int32 × xM)) (hf_condition : ∀ (a0 : Int32) (a1 : Int32) (a2 : Int32) (M : xM), Fr wr_X3_condition M Prod.snd (g_condition a0 a1 a2 M)) (hf_unit : ∀ (a0 : Int32) (a1 : Int32) (a2 : Int32) (M : xM), Fr wr_X3_unit M Prod.snd (g_unit a0 a1 a2 M)) (x1 : Int32) (x2 : Int32) (x3 : Int32) {k15 : Int32 → Int32 → Int32 → xM → Option (Int32 × xM)} (hk15 : ∀ (b0 : Int32) (b1 : Int32) (b2 : Int32) (M : xM), xfr wr_X3_condition M0 M → Fr wr_X3_condition M0 Prod.snd (k15 b0 b1 b2 M)) (x6 : Int32) (x8 : Int32) (s0 : Int32) (M : xM) (hm : xfr wr_X3_condition M0 M) : Fr wr_X3_condition M0 Prod.snd (F_X3_condition_b108 fu g_condition g_unit x1 x2 x3 k15 x6 x8 s0 M) := by
  unfold F_X3_condition_b108
  exact fr_X3_condition_b114 fu g_condition g_unit hf_condition hf_unit x1 x2 x3 hk15 _ _ _ _ hm
theorem fr_X3_condition_b103 {M0 : xM} (fu : Nat) (g_condition : Int32 → Int32 → Int32 → xM → Option (Int32 × xM)) (g_unit : Int32 → Int32 → Int32 → xM → Option (Int32 × xM)) (hf_condition : ∀ (a0 : Int32) (a1 : Int32) (a2 : Int32) (M : xM), Fr wr_X3_condition M Prod.snd (g_condition a0 a1 a2 M)) (hf_unit : ∀ (a0 : Int32) (a1 : Int32) (a2 : Int32) (M : xM), Fr wr_X3_unit M Prod.snd (g_unit a0 a1 a2 M)) (x1 : Int32) (x2 : Int32) (x3 : Int32) {k15 : Int32 → Int32 → Int32 → xM → Option (Int32 × xM)} (hk15 : ∀ (b0 : Int32) (b1 : Int32) (b2 : Int32) (M : xM), xfr wr_X3_condition M0 M → Fr wr_X3_condition M0 Prod.snd (k15 b0 b1 b2 M)) (x6 : Int32) (x8 : Int32) (M : xM) (hm : xfr wr_X3_condition M0 M) : Fr wr_X3_condition M0 Prod.snd (F_X3_condition_b103 fu g_condition g_unit x1 x2 x3 k15 x6 x8 M) := by
  unfold F_X3_condition_b103
  exact fr_X3_condition_b108 fu g_condition g_unit hf_condition hf_unit x1 x2 x3 hk15 _ _ _ _ hm
theorem fr_X3_condition_b47 {M0 : xM} (fu : Nat) (g_condition : Int32 → Int32 → Int32 → xM → Option (Int32 × xM)) (g_unit : Int32 → Int32 → Int32 → xM → Option (Int32 × xM)) (hf_condition : ∀ (a0 : Int32) (a1 : Int32) (a2 : Int32) (M : xM), Fr wr_X3_condition M Prod.snd (g_condition a0 a1 a2 M)) (hf_unit : ∀ (a0 : Int32) (a1 : Int32) (a2 : Int32) (M : xM), Fr wr_X3_unit M Prod.snd (g_unit a0 a1 a2 M)) (x1 : Int32) (x2 : Int32) (x3 : Int32) {k15 : Int32 → Int32 → Int32 → xM → Option (Int32 × xM)} (hk15 : ∀ (b0 : Int32) (b1 : Int32) (b2 : Int32) (M : xM), xfr wr_X3_condition M0 M → Fr wr_X3_condition M0 Prod.snd (k15 b0 b1 b2 M)) (x4 : Int32) (x5 : Int32) (x6 : Int32) (x7 : Int32) (M : xM) (hm : xfr wr_X3_condition M0 M) : Fr wr_X3_condition M0 Prod.snd (F_X3_condition_b47 fu g_condition g_unit x1 x2 x3 k15 x4 x5 x6 x7 M) := by
  unfold F_X3_condition_b47
  refine Fr.bind (hf_unit _ _ _ _) (by first | decide | simp [xwsub]) (hm.setf (by first | decide | simp [xin])) (fun q1 hm_q1 => ?_)
  refine Fr.ite ?_ ?_
  · refine Fr.ite ?_ ?_
    · exact fr_X3_condition_b87 fu g_condition g_unit hf_condition hf_unit x1 x2 x3 hk15 _ _ _ hm_q1
    · refine Fr.ite ?_ ?_
      · exact fr_X3_condition_b87 fu g_condition g_unit hf_condition hf_unit x1 x2 x3 hk15 _ _ _ hm_q1
      · exact fr_X3_condition_b88 fu g_condition g_unit hf_condition hf_unit x1 x2 x3 hk15 _ _ _ _ hm_q1
  · refine Fr.ite ?_ ?_
    · refine Fr.ite ?_ ?_
      · exact fr_X3_condition_b108 fu g_condition g_unit hf_condition hf_unit x1 x2 x3 hk15 _ _ _ _ hm_q1
      · exact fr_X3_condition_b103 fu g_condition g_unit hf_condition hf_unit x1 x2 x3 hk15 _ _ _ hm_q1
    · exact fr_X3_condition_b103 fu g_condition g_unit hf_condition hf_unit x1 x2 x3 hk15 _ _ _ hm_q1
theorem fr_X3_condition_b15 {M0 : xM} (fu : Nat) (g_condition : Int32 → Int32 → Int32 → xM → Option (Int32 × xM)) (g_unit : Int32 → Int32 → Int32 → xM → Option (Int32 × xM)) (hf_condition : ∀ (a0 : Int32) (a1 : Int32) (a2 : Int32) (M : xM), Fr wr_X3_condition M Prod.snd (g_condition a0 a1 a2 M)) (hf_unit : ∀ (a0 : Int32) (a1 : Int32) (a2 : Int32) (M : xM), Fr wr_X3_unit M Prod.snd (g_unit a0 a1 a2 M)) (x1 : Int32) (x2 : Int32) (x3 : Int32)  : ∀ (n : Nat) (x4 : Int32) (x5 : Int32) (x6 : Int32) (M : xM), xfr wr_X3_condition M0 M → Fr wr_X3_condition M0 Prod.snd (F_X3_condition_b15 fu g_condition g_unit x1 x2 x3 n x4 x5 x6 M) := by
  intro n
  induction n with
  | zero =>
    intro x4 x5 x6 M hm
    exact Fr.none
  | succ n ih =>
    intro x4 x5 x6 M hm
    rw [F_X3_condition_b15]
    refine Fr.ite ?_ ?_
    · exact fr_X3_condition_b120 fu g_condition g_unit hf_condition hf_unit x1 x2 x3  _ _ _ hm
    · refine Fr.bind (fr_X3_next fu  _) (by first | decide | simp [xwsub]) hm (fun q1 hm_q1 => ?_)
      refine Fr.ite ?_ ?_
      · exact fr_X3_condition_b47 fu g_condition g_unit hf_condition hf_unit x1 x2 x3 ih _ _ _ _ _ hm_q1
      · refine Fr.ite ?_ ?_
        · exact fr_X3_condition_b47 fu g_condition g_unit hf_condition hf_unit x1 x2 x3 ih _ _ _ _ _ hm_q1
        · exact fr_X3_condition_b120 fu g_condition g_unit hf_condition hf_unit x1 x2 x3  _ _ _ hm_q1
theorem fr_X3_condition_b0 {M0 : xM} (fu : Nat) (g_condition : Int32 → Int32 → Int32 → xM → Option (Int32 × xM)) (g_unit : Int32 → Int32 → Int32 → xM → Option (Int32 × xM)) (hf_condition : ∀ (a0 : Int32) (a1 : Int32) (a2 : Int32) (M : xM), Fr wr_X3_condition M Prod.snd (g_condition a0 a1 a2 M)) (hf_unit : ∀ (a0 : Int32) (a1 : Int32) (a2 : Int32) (M : xM), Fr wr_X3_unit M Prod.snd (g_unit a0 a1 a2 M)) (x1 : Int32) (x2 : Int32) (x3 : Int32)   (M : xM) (hm : xfr wr_X3_condition M0 M) : Fr wr_X3_condition M0 Prod.snd (F_X3_condition fu g_condition g_unit x1 x2 x3  M) := by
  unfold F_X3_condition
  refine Fr.bind (hf_unit _ _ _ _) (by first | decide | simp [xwsub]) hm (fun q1 hm_q1 => ?_)
  exact fr_X3_condition_b15 fu g_condition g_unit hf_condition hf_unit x1 x2 x3  fu _ _ _ _ hm_q1
theorem fr_X3_condition (fu : Nat) (g_condition : Int32 → Int32 → Int32 → xM → Option (Int32 × xM)) (g_unit : Int32 → Int32 → Int32 → xM → Option (Int32 × xM)) (hf_condition : ∀ (a0 : Int32) (a1 : Int32) (a2 : Int32) (M : xM), Fr wr_X3_condition M Prod.snd (g_condition a0 a1 a2 M)) (hf_unit : ∀ (a0 : Int32) (a1 : Int32) (a2 : Int32) (M : xM), Fr wr_X3_unit M Prod.snd (g_unit a0 a1 a2 M)) (x1 : Int32) (x2 : Int32) (x3 : Int32) (M : xM) : Fr wr_X3_condition M Prod.snd (F_X3_condition fu g_condition g_unit x1 x2 x3  M) := fr_X3_condition_b0 fu g_condition g_unit hf_condition hf_unit x1 x2 x3  M xfr.rf
theorem fr_X3_unit_b95 {M0 : xM} (fu : Nat) (g_condition : Int32 → Int32 → Int32 → xM → Option (Int32 × xM)) (g_unit : Int32 → Int32 → Int32 → xM → Option (Int32 × xM)) (hf_condition : ∀ (a0 : Int32) (a1 : Int32) (a2 : Int32) (M : xM), Fr wr_X3_condition M Prod.snd (g_condition a0 a1 a2 M)) (hf_unit : ∀ (a0 : Int32) (a1 : Int32) (a2 : Int32) (M : xM), Fr wr_X3_unit M Prod.snd (g_unit a0 a1 a2 M)) (x1 : Int32) (x2 : Int32) (x3 : Int32)  (s0 : Int32) (M : xM) (hm : xfr wr_X3_unit M0 M) : Fr wr_X3_unit M0 Prod.snd (F_X3_unit_b95 fu g_condition g_unit x1 x2 x3 s0 M) := by
  unfold F_X3_unit_b95
  refine Fr.bind (fr_X3_next fu  _) (by first | decide | simp [xwsub]) hm (fun q1 hm_q1 => ?_)
  refine Fr.ite ?_ ?_
  · refine Fr.bind (fr_X3_stop  _) (by first | decide | simp [xwsub]) hm_q1 (fun q3 hm_q3 => ?_)
    exact Fr.some hm_q3
  · refine Fr.bind (frT_X3_sum fu _ _) (by first | decide | simp [xwsub]) (hm_q1.setf (by first | decide | simp [xin])) (fun q2 hm_q2 => ?_)
    refine Fr.ite ?_ ?_
    · refine Fr.ite ?_ ?_
      · exact Fr.some hm_q2
      · exact Fr.some hm_q2
    · refine Fr.ite ?_ ?_
      · refine Fr.ite ?_ ?_
        · exact Fr.some hm_q2
        · exact Fr.some hm_q2
      · refine Fr.ite ?_ ?_
        · exact Fr.some hm_q2
        · exact Fr.some hm_q2
theorem fr_X3_unit_b82 {M0 : xM} (fu : Nat) (g_condition : Int32 → Int32 → Int32 → xM → Option (Int32 × xM)) (g_unit : Int32 → Int32 → Int32 → xM → Option (Int32 × xM)) (hf_condition : ∀ (a0 : Int32) (a1 : Int32) (a2 : Int32) (M : xM), Fr wr_X3_condition M Prod.snd (g_condition a0 a1 a2 M)) (hf_unit : ∀ (a0 : Int32) (a1 : Int32) (a2 : Int32) (M : xM), Fr wr_X3_unit M Prod.snd (g_unit a0 a1 a2 M)) (x1 : Int32) (x2 : Int32) (x3 : Int32)   (M : xM) (hm : xfr wr_X3_unit M0 M) : Fr wr_X3_unit M0 Prod.snd (F_X3_unit_b82 fu g_condition g_unit x1 x2 x3  M) := by
  unfold F_X3_unit_b82
  refine Fr.ite ?_ ?_
  · refine Fr.bind (frT_X3_sum fu _ _) (by first | decide | simp [xwsub]) hm (fun q1 hm_q1 => ?_)
    exact fr_X3_unit_b95 fu g_condition g_unit hf_condition hf_unit x1 x2 x3  _ _ hm_q1
  · exact fr_X3_unit_b95 fu g_condition g_unit hf_condition hf_unit x1 x2 x3  _ _ hm
theorem fr_X3_unit_b47 {M0 : xM} (fu : Nat) (g_condition : Int32 → Int32 → Int32 → xM → Option (Int32 × xM)) (g_unit : Int32 → Int32 → Int32 → xM → Option (Int32 × xM)) (hf_condition : ∀ (a0 : Int32) (a1 : Int32) (a2 : Int32) (M : xM), Fr wr_X3_condition M Prod.snd (g_condition a0 a1 a2 M)) (hf_unit : ∀ (a0 : Int32) (a1 : Int32) (a2 : Int32) (M : xM), Fr wr_X3_unit M Prod.snd (g_unit a0 a1 a2 M)) (x1 : Int32) (x2 : Int32) (x3 : Int32)  (x4 : Int32) (M : xM) (hm : xfr wr_X3_unit M0 M) : Fr wr_X3_unit M0 Prod.snd (F_X3_unit_b47 fu g_condition g_unit x1 x2 x3 x4 M) := by
  unfold F_X3_unit_b47
  refine Fr.ite ?_ ?_
  · refine Fr.bind (fr_X3_goesDeeper _ _) (by first | decide | simp [xwsub]) hm (fun q1 hm_q1 => ?_)
    refine Fr.ite ?_ ?_
    · exact fr_X3_unit_b82 fu g_condition g_unit hf_condition hf_unit x1 x2 x3   _ hm_q1
    · refine Fr.bind (hf_condition _ _ _ _) (by first | decide | simp [xwsub]) hm_q1 (fun q2 hm_q2 => ?_)
      refine Fr.bind (fr_X3_expect fu _ _) (by first | decide | simp [xwsub]) hm_q2 (fun q3 hm_q3 => ?_)
      exact Fr.ite (Fr.some hm_q3) Fr.none
  · exact fr_X3_unit_b82 fu g_condition g_unit hf_condition hf_unit x1 x2 x3   _ hm
theorem fr_X3_unit_b12 {M0 : xM} (fu : Nat) (g_condition : Int32 → Int32 → Int32 → xM → Option (Int32 × xM)) (g_unit : Int32 → Int32 → Int32 → xM → Option (Int32 × xM)) (hf_condition : ∀ (a0 : Int32) (a1 : Int32) (a2 : Int32) (M : xM), Fr wr_X3_condition M Prod.snd (g_condition a0 a1 a2 M)) (hf_unit : ∀ (a0 : Int32) (a1 : Int32) (a2 : Int32) (M : xM), Fr wr_X3_unit M Prod.snd (g_unit a0 a1 a2 M)) (x1 : Int32) (x2 : Int32) (x3 : Int32)  (s0 : Int32) (M : xM) (hm : xfr wr_X3_unit M0 M) : Fr wr_X3_unit M0 Prod.snd (F_X3_unit_b12 fu g_condition g_unit x1 x2 x3 s0 M) := by
  unfold F_X3_unit_b12
  refine Fr.ite ?_ ?_
  · refine Fr.bind (fr_X3_goesDeeper _ _) (by first | decide | simp [xwsub]) hm (fun q1 hm_q1 => ?_)
    refine Fr.ite ?_ ?_
    · exact fr_X3_unit_b47 fu g_condition g_unit hf_condition hf_unit x1 x2 x3  _ _ hm_q1
    · refine Fr.bind (hf_unit _ _ _ _) (by first | decide | simp [xwsub]) hm_q1 (fun q2 hm_q2 => ?_)
      refine Fr.ite ?_ ?_
      · exact Fr.some hm_q2
      · exact Fr.some hm_q2
  · exact fr_X3_unit_b47 fu g_condition g_unit hf_condition hf_unit x1 x2 x3  _ _ hm
theorem fr_X3_unit_b0 {M0 : xM} (fu : Nat) (g_condition : Int32 → Int32 → Int32 → xM → Option (Int32 × xM)) (g_unit : Int32 → Int32 → Int32 → xM → Option (Int32 × xM)) (hf_condition : ∀ (a0 : Int32) (a1 : Int32) (a2 : Int32) (M : xM), Fr wr_X3_condition M Prod.snd (g_condition a0 a1 a2 M)) (hf_unit : ∀ (a0 : Int32) (a1 : Int32) (a2 : Int32) (M : xM), Fr wr_X3_unit M Prod.snd (g_unit a0 a1 a2 M)) (x1 : Int32) (x2 : Int32) (x3 : Int32)   (M : xM) (hm : xfr wr_X3_unit M0 M) : Fr wr_X3_unit M0 Prod.snd (F_X3_unit fu g_condition g_unit x1 x2 x3  M) := by
  unfold F_X3_unit
  refine Fr.ite ?_ ?_
  · refine Fr.bind (fr_X3_next fu  _) (by first | decide | simp [xwsub]) hm (fun q1 hm_q1 => ?_)
    exact fr_X3_unit_b12 fu g_condition g_unit hf_condition hf_unit x1 x2 x3  _ _ hm_q1
  · exact fr_X3_unit_b12 fu g_condition g_unit hf_condition hf_unit x1 x2 x3  _ _ hm
theorem fr_X3_unit (fu : Nat) (g_condition : Int32 → Int32 → Int32 → xM → Option (Int32 × xM)) (g_unit : Int32 → Int32 → Int32 → xM → Option (Int32 × xM)) (hf_condition : ∀ (a0 : Int32) (a1 : Int32) (a2 : Int32) (M : xM), Fr wr_X3_condition M Prod.snd (g_condition a0 a1 a2 M)) (hf_unit : ∀ (a0 : Int32) (a1 : Int32) (a2 : Int32) (M : xM), Fr wr_X3_unit M Prod.snd (g_unit a0 a1 a2 M)) (x1 : Int32) (x2 : Int32) (x3 : Int32) (M : xM) : Fr wr_X3_unit M Prod.snd (F_X3_unit fu g_condition g_unit x1 x2 x3  M) := fr_X3_unit_b0 fu g_condition g_unit hf_condition hf_unit x1 x2 x3  M xfr.rf
theorem fr_R_X3_condition_unit (fu : Nat) : ∀ n : Nat, (∀ (a0 : Int32) (a1 : Int32) (a2 : Int32) (M : xM), Fr wr_X3_condition M Prod.snd ((R_X3_condition_unit fu n).1 a0 a1 a2 M)) ∧ (∀ (a0 : Int32) (a1 : Int32) (a2 : Int32) (M : xM), Fr wr_X3_unit M Prod.snd ((R_X3_condition_unit fu n).2 a0 a1 a2 M)) := by
  intro n
  induction n with
  | zero => exact ⟨fun _ _ _ _ => Fr.none, fun _ _ _ _ => Fr.none⟩
  | succ n ih =>
    obtain ⟨h0, h1⟩ := ih
    exact ⟨fun a0 a1 a2 M => fr_X3_condition fu _ _ h0 h1 a0 a1 a2 M, fun a0 a1 a2 M => fr_X3_unit fu _ _ h0 h1 a0 a1 a2 M⟩
theorem frT_X3_condition (fu : Nat) (a0 : Int32) (a1 : Int32) (a2 : Int32) (M : xM) : Fr wr_X3_condition M Prod.snd (T_X3_condition fu a0 a1 a2 M) := (fr_R_X3_condition_unit fu 30).1 a0 a1 a2 M
theorem frT_X3_unit (fu : Nat) (a0 : Int32) (a1 : Int32) (a2 : Int32) (M : xM) : Fr wr_X3_unit M Prod.snd (T_X3_unit fu a0 a1 a2 M) := (fr_R_X3_condition_unit fu 30).2 a0 a1 a2 M
abbrev wr_X3_worth : List (Nat × Option Nat) := [(4, some 0), (4, some 4)]
theorem fr_X3_worth_b163 {M0 : xM} (fu : Nat)    (x2 : Int32) (M : xM) (hm : xfr wr_X3_worth M0 M) : Fr wr_X3_worth M0 Prod.snd (F_X3_worth_b163 fu x2 M) := by
  unfold F_X3_worth_b163
  refine Fr.ite ?_ ?_
  · exact Fr.some hm
  · refine Fr.bind (fr_X3_stop  _) (by first | decide | simp [xwsub]) hm (fun q1 hm_q1 => ?_)
    exact Fr.some hm_q1
theorem fr_X3_worth_b135 {M0 : xM} (fu : Nat)   {k16 : Int32 → Int32 → Int32 → xM → Option (Int32 × xM)} (hk16 : ∀ (b0 : Int32) (b1 : Int32) (b2 : Int32) (M : xM), xfr wr_X3_worth M0 M → Fr wr_X3_worth M0 Prod.snd (k16 b0 b1 b2 M)) (x1 : Int32) (x2 : Int32) (x3 : Int32) (M : xM) (hm : xfr wr_X3_worth M0 M) : Fr wr_X3_worth M0 Prod.snd (F_X3_worth_b135 fu k16 x1 x2 x3 M) := by
  unfold F_X3_worth_b135
  refine Fr.bind (fr_X3_next fu  _) (by first | decide | simp [xwsub]) hm (fun q1 hm_q1 => ?_)
  refine Fr.ite ?_ ?_
  · exact hk16 _ _ _ _ (hm_q1.setf (by first | decide | simp [xin]))
  · exact fr_X3_worth_b163 fu  _ _ hm_q1
theorem fr_X3_worth_b121 {M0 : xM} (fu : Nat)   {k16 : Int32 → Int32 → Int32 → xM → Option (Int32 × xM)} (hk16 : ∀ (b0 : Int32) (b1 : Int32) (b2 : Int32) (M : xM), xfr wr_X3_worth M0 M → Fr wr_X3_worth M0 Prod.snd (k16 b0 b1 b2 M)) (x1 : Int32) (x2 : Int32) (x3 : Int32) (x6 : Int32) (x7 : Int32) (M : xM) (hm : xfr wr_X3_worth M0 M) : Fr wr_X3_worth M0 Prod.snd (F_X3_worth_b121 fu k16 x1 x2 x3 x6 x7 M) := by
  unfold F_X3_worth_b121
  refine Fr.ite ?_ ?_
  · exact fr_X3_worth_b135 fu hk16 _ _ _ _ hm
  · refine Fr.ite ?_ ?_
    · exact fr_X3_worth_b135 fu hk16 _ _ _ _ hm
    · exact fr_X3_worth_b135 fu hk16 _ _ _ _ hm
theorem fr_X3_worth_b97 {M0 : xM} (fu : Nat)   {k16 : Int32 → Int32 → Int32 → xM → Option (Int32 × xM)} (hk16 : ∀ (b0 : Int32) (b1 : Int32) (b2 : Int32) (M : xM), xfr wr_X3_worth M0 M → Fr wr_X3_worth M0 Prod.snd (k16 b0 b1 b2 M)) (x1 : Int32) (x2 : Int32) (x3 : Int32) (x5 : Int32) (x6 : Int32) (M : xM) (hm : xfr wr_X3_worth M0 M) : Fr wr_X3_worth M0 Prod.snd (F_X3_worth_b97 fu k16 x1 x2 x3 x5 x6 M) := by
  unfold F_X3_worth_b97
  refine Fr.bind (frT_X3_condition fu _ _ _ _) (by first | decide | simp [xwsub]) hm (fun q1 hm_q1 => ?_)
  refine Fr.bind (fr_X3_expect fu _ _) (by first | decide | simp [xwsub]) hm_q1 (fun q2 hm_q2 => ?_)
  refine Fr.bind (frT_X3_sum fu _ _) (by first | decide | simp [xwsub]) hm_q2 (fun q3 hm_q3 => ?_)
  exact fr_X3_worth_b121 fu hk16 _ _ _ _ _ _ hm_q3
theorem fr_X3_worth_b77 {M0 : xM} (fu : Nat)   {k16 : Int32 → Int32 → Int32 → xM → Option (Int32 × xM)} (hk16 : ∀ (b0 : Int32) (b1 : Int32) (b2 : Int32) (M : xM), xfr wr_X3_worth M0 M → Fr wr_X3_worth M0 Prod.snd (k16 b0 b1 b2 M)) (x1 : Int32) (x2 : Int32) (x3 : Int32) (x5 : Int32) (s0 : Int32) (M : xM) (hm : xfr wr_X3_worth M0 M) : Fr wr_X3_worth M0 Prod.snd (F_X3_worth_b77 fu k16 x1 x2 x3 x5 s0 M) := by
  unfold F_X3_worth_b77
  refine Fr.ite ?_ ?_
  · exact fr_X3_worth_b97 fu hk16 _ _ _ _ _ _ hm
  · refine Fr.bind (fr_X3_next fu  _) (by first | decide | simp [xwsub]) hm (fun q1 hm_q1 => ?_)
    refine Fr.ite ?_ ?_
    · exact fr_X3_worth_b121 fu hk16 _ _ _ _ _ _ hm_q1
    · exact fr_X3_worth_b97 fu hk16 _ _ _ _ _ _ hm_q1
theorem fr_X3_worth_b61 {M0 : xM} (fu : Nat)   {k16 : Int32 → Int32 → Int32 → xM → Option (Int32 × xM)} (hk16 : ∀ (b0 : Int32) (b1 : Int32) (b2 : Int32) (M : xM), xfr wr_X3_worth M0 M → Fr wr_X3_worth M0 Prod.snd (k16 b0 b1 b2 M)) (x1 : Int32) (x2 : Int32) (x3 : Int32) (s0 : Int32) (M : xM) (hm : xfr wr_X3_worth M0 M) : Fr wr_X3_worth M0 Prod.snd (F_X3_worth_b61 fu k16 x1 x2 x3 s0 M) := by
  unfold F_X3_worth_b61
  refine Fr.ite ?_ ?_
  · exact fr_X3_worth_b77 fu hk16 _ _ _ _ _ _ hm
  · refine Fr.bind (frT_X3_sum fu _ _) (by first | decide | simp [xwsub]) hm (fun q1 hm_q1 => ?_)
    exact fr_X3_worth_b77 fu hk16 _ _ _ _ _ _ hm_q1
theorem fr_X3_worth_b60 {M0 : xM} (fu : Nat)   {k16 : Int32 → Int32 → Int32 → xM → Option (Int32 × xM)} (hk16 : ∀ (b0 : Int32) (b1 : Int32) (b2 : Int32) (M : xM), xfr wr_X3_worth M0 M → Fr wr_X3_worth M0 Prod.snd (k16 b0 b1 b2 M)) (x1 : Int32) (x2 : Int32) (x3 : Int32) (M : xM) (hm : xfr wr_X3_worth M0 M) : Fr wr_X3_worth M0 Prod.snd (F_X3_worth_b60 fu k16 x1 x2 x3 M) := by
  unfold F_X3_worth_b60
  exact fr_X3_worth_b61 fu hk16 _ _ _ _ _ hm
theorem fr_X3_worth_b16 {M0 : xM} (fu : Nat)    : ∀ (n : Nat) (x1 : Int32) (x2 : Int32) (x3 : Int32) (M : xM), xfr wr_X3_worth M0 M → Fr wr_X3_worth M0 Prod.snd (F_X3_worth_b16 fu n x1 x2 x3 M) := by
  intro n
  induction n with
  | zero =>
    intro x1 x2 x3 M hm
    exact Fr.none
  | succ n ih =>
    intro x1 x2 x3 M hm
    rw [F_X3_worth_b16]
    refine Fr.ite ?_ ?_
    · exact fr_X3_worth_b163 fu  _ _ hm
    · refine Fr.bind (fr_X3_expect fu _ _) (by first | decide | simp [xwsub]) hm (fun q1 hm_q1 => ?_)
      refine Fr.bind (fr_X3_expect fu _ _) (by first | decide | simp [xwsub]) hm_q1 (fun q2 hm_q2 => ?_)
      refine Fr.bind (fr_X3_next fu  _) (by first | decide | simp [xwsub]) hm_q2 (fun q3 hm_q3 => ?_)
      refine Fr.ite ?_ ?_
      · exact fr_X3_worth_b60 fu ih _ _ _ _ hm_q3
      · refine Fr.ite ?_ ?_
        · exact fr_X3_worth_b60 fu ih _ _ _ _ hm_q3
        · exact fr_X3_worth_b61 fu ih _ _ _ _ _ hm_q3
theorem fr_X3_worth_b0 {M0 : xM} (fu : Nat)     (M : xM) (hm : xfr wr_X3_worth M0 M) : Fr wr_X3_worth M0 Prod.snd (F_X3_worth fu  M) := by
  unfold F_X3_worth
  exact fr_X3_worth_b16 fu  fu _ _ _ _ ((hm.setf (by first | decide | simp [xin])).setf (by first | decide | simp [xin]))
theorem fr_X3_worth (fu : Nat)   (M : xM) : Fr wr_X3_worth M Prod.snd (F_X3_worth fu   M) := fr_X3_worth_b0 fu  M xfr.rf
abbrev wr_X4_faultIn : List (Nat × Option Nat) := [(20, none), (4, some 0), (4, some 3), (4, some 4)]
theorem fr_X4_faultIn_b0 {M0 : xM} (fu : Nat)     (M : xM) (hm : xfr wr_X4_faultIn M0 M) : Fr wr_X4_faultIn M0 Prod.snd (F_X4_faultIn fu  M) := by
  unfold F_X4_faultIn
  refine Fr.bind (fr_X3_layText fu _ _ _ _ _) (by first | decide | simp [xwsub]) hm (fun q1 hm_q1 => ?_)
  refine Fr.bind (fr_X3_worth fu  _) (by first | decide | simp [xwsub]) hm_q1 (fun q2 hm_q2 => ?_)
  exact Fr.some hm_q2
theorem fr_X4_faultIn (fu : Nat)   (M : xM) : Fr wr_X4_faultIn M Prod.snd (F_X4_faultIn fu   M) := fr_X4_faultIn_b0 fu  M xfr.rf
abbrev wr_X4_add : List (Nat × Option Nat) := [(18, none), (19, none), (2, some 1), (20, none), (3, some 0), (4, some 0), (4, some 3), (4, some 4)]
theorem fr_X4_add_b0 {M0 : xM} (fu : Nat)     (M : xM) (hm : xfr wr_X4_add M0 M) : Fr wr_X4_add M0 Prod.snd (F_X4_add fu  M) := by
  unfold F_X4_add
  refine Fr.ite ?_ ?_
  · exact Fr.some hm
  · refine Fr.bind (fr_X4_faultIn fu  _) (by first | decide | simp [xwsub]) hm (fun q1 hm_q1 => ?_)
    refine Fr.ite ?_ ?_
    · refine Fr.bind (fr_X9_copyTo fu _ _ _ _) (by first | decide | simp [xwsub]) hm_q1 (fun q2 hm_q2 => ?_)
      refine Fr.bind (fr_X1_put _ _ _ _ _) (by first | decide | simp [xwsub]) hm_q2 (fun q3 hm_q3 => ?_)
      exact Fr.some ((hm_q3.setf (by first | decide | simp [xin])).setf (by first | decide | simp [xin]))
    · exact Fr.some hm_q1
theorem fr_X4_add (fu : Nat)   (M : xM) : Fr wr_X4_add M Prod.snd (F_X4_add fu   M) := fr_X4_add_b0 fu  M xfr.rf
abbrev wr_X4_votersBy : List (Nat × Option Nat) := [(20, none), (21, none), (4, some 0), (4, some 3), (4, some 4)]
theorem fr_X4_votersBy_b0 {M0 : xM} (fu : Nat)  (x1 : Int32) (r2 n2 : Nat) (x3 : Int32)   (M : xM) (hm : xfr wr_X4_votersBy M0 M) : Fr wr_X4_votersBy M0 Prod.snd (F_X4_votersBy fu x1 r2 n2 x3  M) := by
  unfold F_X4_votersBy
  refine Fr.ite ?_ ?_
  · exact Fr.some hm
  · refine Fr.bind (fr_X3_layText fu _ _ _ _ _) (by first | decide | simp [xwsub]) hm (fun q1 hm_q1 => ?_)
    refine Fr.bind (fr_X3_layBooks fu _ _ _ _) (by first | decide | simp [xwsub]) hm_q1 (fun q2 hm_q2 => ?_)
    refine Fr.bind (fr_X3_worth fu  _) (by first | decide | simp [xwsub]) hm_q2 (fun q3 hm_q3 => ?_)
    exact Fr.some hm_q3
theorem fr_X4_votersBy (fu : Nat)  (x1 : Int32) (r2 n2 : Nat) (x3 : Int32) (M : xM) : Fr wr_X4_votersBy M Prod.snd (F_X4_votersBy fu x1 r2 n2 x3  M) := fr_X4_votersBy_b0 fu x1 r2 n2 x3  M xfr.rf
abbrev wr_X4_agreeing : List (Nat × Option Nat) := [(20, none), (21, none), (4, some 0), (4, some 3), (4, some 4)]
theorem fr_X4_agreeing_b40 {M0 : xM} (fu : Nat)  (r1 n1 : Nat) (x2 : Int32) {k5 : Int32 → Int32 → xM → Option (Int32 × xM)} (hk5 : ∀ (b0 : Int32) (b1 : Int32) (M : xM), xfr wr_X4_agreeing M0 M → Fr wr_X4_agreeing M0 Prod.snd (k5 b0 b1 M)) (x3 : Int32) (x4 : Int32) (M : xM) (hm : xfr wr_X4_agreeing M0 M) : Fr wr_X4_agreeing M0 Prod.snd (F_X4_agreeing_b40 fu r1 n1 x2 k5 x3 x4 M) := by
  unfold F_X4_agreeing_b40
  exact hk5 _ _ _ hm
theorem fr_X4_agreeing_b5 {M0 : xM} (fu : Nat)  (r1 n1 : Nat) (x2 : Int32)  : ∀ (n : Nat) (x3 : Int32) (x4 : Int32) (M : xM), xfr wr_X4_agreeing M0 M → Fr wr_X4_agreeing M0 Prod.snd (F_X4_agreeing_b5 fu r1 n1 x2 n x3 x4 M) := by
  intro n
  induction n with
  | zero =>
    intro x3 x4 M hm
    exact Fr.none
  | succ n ih =>
    intro x3 x4 M hm
    rw [F_X4_agreeing_b5]
    refine Fr.ite ?_ ?_
    · exact Fr.some hm
    · refine Fr.bind (fr_X4_votersBy fu _ _ _ _ _) (by first | decide | simp [xwsub]) hm (fun q1 hm_q1 => ?_)
      refine Fr.ite ?_ ?_
      · exact fr_X4_agreeing_b40 fu r1 n1 x2 ih _ _ _ hm_q1
      · exact fr_X4_agreeing_b40 fu r1 n1 x2 ih _ _ _ hm_q1
theorem fr_X4_agreeing_b0 {M0 : xM} (fu : Nat)  (r1 n1 : Nat) (x2 : Int32)   (M : xM) (hm : xfr wr_X4_agreeing M0 M) : Fr wr_X4_agreeing M0 Prod.snd (F_X4_agreeing fu r1 n1 x2  M) := by
  unfold F_X4_agreeing
  exact fr_X4_agreeing_b5 fu r1 n1 x2  fu _ _ _ hm
theorem fr_X4_agreeing (fu : Nat)  (r1 n1 : Nat) (x2 : Int32) (M : xM) : Fr wr_X4_agreeing M Prod.snd (F_X4_agreeing fu r1 n1 x2  M) := fr_X4_agreeing_b0 fu r1 n1 x2  M xfr.rf
abbrev wr_X5_add : List (Nat × Option Nat) := [(22, none), (24, none), (25, none), (5, some 1)]
theorem fr_X5_add_b42 {M0 : xM}  (x1 : Int32) (x2 : Int32) (x3 : Int32) (x4 : Int32) (x5 : Int32)  (s0 : Int32) (M : xM) (hm : xfr wr_X5_add M0 M) : Fr wr_X5_add M0 Prod.snd (F_X5_add_b42 x1 x2 x3 x4 x5 s0 M) := by
  unfold F_X5_add_b42
  refine Fr.ite ?_ ?_
  · exact Fr.some hm
  · refine Fr.ite ?_ ?_
    · refine Fr.bind (fr_X1_put _ _ _ _ _) (by first | decide | simp [xwsub]) hm (fun q1 hm_q1 => ?_)
      refine Fr.bind (fr_X1_put _ _ _ _ _) (by first | decide | simp [xwsub]) hm_q1 (fun q2 hm_q2 => ?_)
      refine Fr.bind (fr_X1_put _ _ _ _ _) (by first | decide | simp [xwsub]) hm_q2 (fun q3 hm_q3 => ?_)
      refine Fr.bind (fr_X1_put _ _ _ _ _) (by first | decide | simp [xwsub]) hm_q3 (fun q4 hm_q4 => ?_)
      refine Fr.bind (fr_X1_put _ _ _ _ _) (by first | decide | simp [xwsub]) hm_q4 (fun q5 hm_q5 => ?_)
      refine Fr.bind (fr_X1_put _ _ _ _ _) (by first | decide | simp [xwsub]) hm_q5 (fun q6 hm_q6 => ?_)
      refine Fr.bind (fr_X1_put _ _ _ _ _) (by first | decide | simp [xwsub]) hm_q6 (fun q7 hm_q7 => ?_)
      exact Fr.some (hm_q7.setf (by first | decide | simp [xin]))
    · exact Fr.some hm
theorem fr_X5_add_b41 {M0 : xM}  (x1 : Int32) (x2 : Int32) (x3 : Int32) (x4 : Int32) (x5 : Int32)   (M : xM) (hm : xfr wr_X5_add M0 M) : Fr wr_X5_add M0 Prod.snd (F_X5_add_b41 x1 x2 x3 x4 x5  M) := by
  unfold F_X5_add_b41
  exact fr_X5_add_b42 x1 x2 x3 x4 x5  _ _ hm
theorem fr_X5_add_b0 {M0 : xM}  (x1 : Int32) (x2 : Int32) (x3 : Int32) (x4 : Int32) (x5 : Int32)   (M : xM) (hm : xfr wr_X5_add M0 M) : Fr wr_X5_add M0 Prod.snd (F_X5_add x1 x2 x3 x4 x5  M) := by
  unfold F_X5_add
  refine Fr.ite ?_ ?_
  · exact fr_X5_add_b41 x1 x2 x3 x4 x5   _ hm
  · refine Fr.ite ?_ ?_
    · exact fr_X5_add_b41 x1 x2 x3 x4 x5   _ hm
    · refine Fr.ite ?_ ?_
      · exact fr_X5_add_b41 x1 x2 x3 x4 x5   _ hm
      · refine Fr.ite ?_ ?_
        · exact fr_X5_add_b41 x1 x2 x3 x4 x5   _ hm
        · refine Fr.ite ?_ ?_
          · exact fr_X5_add_b41 x1 x2 x3 x4 x5   _ hm
          · exact fr_X5_add_b42 x1 x2 x3 x4 x5  _ _ hm
theorem fr_X5_add  (x1 : Int32) (x2 : Int32) (x3 : Int32) (x4 : Int32) (x5 : Int32) (M : xM) : Fr wr_X5_add M Prod.snd (F_X5_add  x1 x2 x3 x4 x5  M) := fr_X5_add_b0 x1 x2 x3 x4 x5  M xfr.rf
abbrev wr_X5_setShown : List (Nat × Option Nat) := [(26, none)]
theorem fr_X5_setShown_b0 {M0 : xM}  (x1 : Int32) (x2 : Int32) (x3 : Int32)   (M : xM) (hm : xfr wr_X5_setShown M0 M) : Fr wr_X5_setShown M0 Prod.snd (F_X5_setShown x1 x2 x3  M) := by
  unfold F_X5_setShown
  refine Fr.ite ?_ ?_
  · exact Fr.some hm
  · refine Fr.ite ?_ ?_
    · exact Fr.some hm
    · refine Fr.bind (fr_X1_put _ _ _ _ _) (by first | decide | simp [xwsub]) hm (fun q1 hm_q1 => ?_)
      exact Fr.some hm_q1
theorem fr_X5_setShown  (x1 : Int32) (x2 : Int32) (x3 : Int32) (M : xM) : Fr wr_X5_setShown M Prod.snd (F_X5_setShown  x1 x2 x3  M) := fr_X5_setShown_b0 x1 x2 x3  M xfr.rf
abbrev wr_X5_addFault : List (Nat × Option Nat) := [(27, none), (28, none), (29, none), (30, none)]
theorem fr_X5_addFault_b0 {M0 : xM}  (x1 : Int32) (x2 : Int32) (x3 : Int32) (x4 : Int32)   (M : xM) (hm : xfr wr_X5_addFault M0 M) : Fr wr_X5_addFault M0 Prod.snd (F_X5_addFault x1 x2 x3 x4  M) := by
  unfold F_X5_addFault
  refine Fr.ite ?_ ?_
  · exact Fr.some hm
  · refine Fr.ite ?_ ?_
    · exact Fr.some hm
    · refine Fr.ite ?_ ?_
      · exact Fr.some hm
      · refine Fr.bind (fr_X1_put _ _ _ _ _) (by first | decide | simp [xwsub]) hm (fun q1 hm_q1 => ?_)
        refine Fr.bind (fr_X1_put _ _ _ _ _) (by first | decide | simp [xwsub]) hm_q1 (fun q2 hm_q2 => ?_)
        refine Fr.bind (fr_X1_put _ _ _ _ _) (by first | decide | simp [xwsub]) hm_q2 (fun q3 hm_q3 => ?_)
        refine Fr.bind (fr_X1_put _ _ _ _ _) (by first | decide | simp [xwsub]) hm_q3 (fun q4 hm_q4 => ?_)
        exact Fr.some hm_q4
theorem fr_X5_addFault  (x1 : Int32) (x2 : Int32) (x3 : Int32) (x4 : Int32) (M : xM) : Fr wr_X5_addFault M Prod.snd (F_X5_addFault  x1 x2 x3 x4  M) := fr_X5_addFault_b0 x1 x2 x3 x4  M xfr.rf
abbrev wr_X5_addRecount : List (Nat × Option Nat) := [(31, none), (32, none)]
theorem fr_X5_addRecount_b0 {M0 : xM}  (x1 : Int32) (x2 : Int32) (x3 : Int32)   (M : xM) (hm : xfr wr_X5_addRecount M0 M) : Fr wr_X5_addRecount M0 Prod.snd (F_X5_addRecount x1 x2 x3  M) := by
  unfold F_X5_addRecount
  refine Fr.ite ?_ ?_
  · exact Fr.some hm
  · refine Fr.ite ?_ ?_
    · exact Fr.some hm
    · refine Fr.ite ?_ ?_
      · refine Fr.bind (fr_X1_put _ _ _ _ _) (by first | decide | simp [xwsub]) hm (fun q1 hm_q1 => ?_)
        refine Fr.bind (fr_X1_put _ _ _ _ _) (by first | decide | simp [xwsub]) hm_q1 (fun q2 hm_q2 => ?_)
        exact Fr.some hm_q2
      · exact Fr.some hm
theorem fr_X5_addRecount  (x1 : Int32) (x2 : Int32) (x3 : Int32) (M : xM) : Fr wr_X5_addRecount M Prod.snd (F_X5_addRecount  x1 x2 x3  M) := fr_X5_addRecount_b0 x1 x2 x3  M xfr.rf
abbrev wr_X5_changes : List (Nat × Option Nat) := []
theorem fr_X5_changes_b72 {M0 : xM} (fu : Nat)  (x1 : Int32) (x2 : Int32) {k33 : Int32 → Int32 → Int32 → Int32 → xM → Option (Int32 × xM)} (hk33 : ∀ (b0 : Int32) (b1 : Int32) (b2 : Int32) (b3 : Int32) (M : xM), xfr wr_X5_changes M0 M → Fr wr_X5_changes M0 Prod.snd (k33 b0 b1 b2 b3 M)) (x3 : Int32) (x5 : Int32) (x6 : Int32) (x7 : Int32) (M : xM) (hm : xfr wr_X5_changes M0 M) : Fr wr_X5_changes M0 Prod.snd (F_X5_changes_b72 fu x1 x2 k33 x3 x5 x6 x7 M) := by
  unfold F_X5_changes_b72
  exact hk33 _ _ _ _ _ hm
theorem fr_X5_changes_b33 {M0 : xM} (fu : Nat)  (x1 : Int32) (x2 : Int32)  : ∀ (n : Nat) (x3 : Int32) (x4 : Int32) (x5 : Int32) (x6 : Int32) (M : xM), xfr wr_X5_changes M0 M → Fr wr_X5_changes M0 Prod.snd (F_X5_changes_b33 fu x1 x2 n x3 x4 x5 x6 M) := by
  intro n
  induction n with
  | zero =>
    intro x3 x4 x5 x6 M hm
    exact Fr.none
  | succ n ih =>
    intro x3 x4 x5 x6 M hm
    rw [F_X5_changes_b33]
    refine Fr.ite ?_ ?_
    · exact Fr.some hm
    · refine Fr.ite ?_ ?_
      · exact fr_X5_changes_b72 fu x1 x2 ih _ _ _ _ _ hm
      · exact fr_X5_changes_b72 fu x1 x2 ih _ _ _ _ _ hm
theorem fr_X5_changes_b0 {M0 : xM} (fu : Nat)  (x1 : Int32) (x2 : Int32)   (M : xM) (hm : xfr wr_X5_changes M0 M) : Fr wr_X5_changes M0 Prod.snd (F_X5_changes fu x1 x2  M) := by
  unfold F_X5_changes
  refine Fr.ite ?_ ?_
  · exact Fr.some hm
  · exact fr_X5_changes_b33 fu x1 x2  fu _ _ _ _ _ hm
theorem fr_X5_changes (fu : Nat)  (x1 : Int32) (x2 : Int32) (M : xM) : Fr wr_X5_changes M Prod.snd (F_X5_changes fu x1 x2  M) := fr_X5_changes_b0 fu x1 x2  M xfr.rf
abbrev wr_X5_unlikeShown : List (Nat × Option Nat) := []
theorem fr_X5_unlikeShown_b37 {M0 : xM} (fu : Nat)  (x1 : Int32) {k4 : Int32 → Int32 → xM → Option (Int32 × xM)} (hk4 : ∀ (b0 : Int32) (b1 : Int32) (M : xM), xfr wr_X5_unlikeShown M0 M → Fr wr_X5_unlikeShown M0 Prod.snd (k4 b0 b1 M)) (x2 : Int32) (x3 : Int32) (M : xM) (hm : xfr wr_X5_unlikeShown M0 M) : Fr wr_X5_unlikeShown M0 Prod.snd (F_X5_unlikeShown_b37 fu x1 k4 x2 x3 M) := by
  unfold F_X5_unlikeShown_b37
  exact hk4 _ _ _ hm
theorem fr_X5_unlikeShown_b4 {M0 : xM} (fu : Nat)  (x1 : Int32)  : ∀ (n : Nat) (x2 : Int32) (x3 : Int32) (M : xM), xfr wr_X5_unlikeShown M0 M → Fr wr_X5_unlikeShown M0 Prod.snd (F_X5_unlikeShown_b4 fu x1 n x2 x3 M) := by
  intro n
  induction n with
  | zero =>
    intro x2 x3 M hm
    exact Fr.none
  | succ n ih =>
    intro x2 x3 M hm
    rw [F_X5_unlikeShown_b4]
    refine Fr.ite ?_ ?_
    · exact Fr.some hm
    · refine Fr.ite ?_ ?_
      · exact fr_X5_unlikeShown_b37 fu x1 ih _ _ _ hm
      · exact fr_X5_unlikeShown_b37 fu x1 ih _ _ _ hm
theorem fr_X5_unlikeShown_b0 {M0 : xM} (fu : Nat)  (x1 : Int32)   (M : xM) (hm : xfr wr_X5_unlikeShown M0 M) : Fr wr_X5_unlikeShown M0 Prod.snd (F_X5_unlikeShown fu x1  M) := by
  unfold F_X5_unlikeShown
  exact fr_X5_unlikeShown_b4 fu x1  fu _ _ _ hm
theorem fr_X5_unlikeShown (fu : Nat)  (x1 : Int32) (M : xM) : Fr wr_X5_unlikeShown M Prod.snd (F_X5_unlikeShown fu x1  M) := fr_X5_unlikeShown_b0 fu x1  M xfr.rf
abbrev wr_X5_takeRecounts : List (Nat × Option Nat) := [(26, none)]
theorem fr_X5_takeRecounts_b11 {M0 : xM} (fu : Nat)  (x1 : Int32)  : ∀ (n : Nat) (x2 : Int32) (x3 : Int32) (M : xM), xfr wr_X5_takeRecounts M0 M → Fr wr_X5_takeRecounts M0 Prod.snd (F_X5_takeRecounts_b11 fu x1 n x2 x3 M) := by
  intro n
  induction n with
  | zero =>
    intro x2 x3 M hm
    exact Fr.none
  | succ n ih =>
    intro x2 x3 M hm
    rw [F_X5_takeRecounts_b11]
    refine Fr.ite ?_ ?_
    · exact Fr.some hm
    · refine Fr.bind (fr_X1_put _ _ _ _ _) (by first | decide | simp [xwsub]) hm (fun q1 hm_q1 => ?_)
      exact ih _ _ _ hm_q1
theorem fr_X5_takeRecounts_b0 {M0 : xM} (fu : Nat)  (x1 : Int32)   (M : xM) (hm : xfr wr_X5_takeRecounts M0 M) : Fr wr_X5_takeRecounts M0 Prod.snd (F_X5_takeRecounts fu x1  M) := by
  unfold F_X5_takeRecounts
  refine Fr.bind (fr_X5_unlikeShown fu _ _) (by first | decide | simp [xwsub]) hm (fun q1 hm_q1 => ?_)
  exact fr_X5_takeRecounts_b11 fu x1  fu _ _ _ hm_q1
theorem fr_X5_takeRecounts (fu : Nat)  (x1 : Int32) (M : xM) : Fr wr_X5_takeRecounts M Prod.snd (F_X5_takeRecounts fu x1  M) := fr_X5_takeRecounts_b0 fu x1  M xfr.rf
abbrev wr_X2_arrangeFault : List (Nat × Option Nat) := [(33, none), (34, none), (35, none), (6, some 8), (6, some 9)]
theorem fr_X2_arrangeFault_b0 {M0 : xM}  (x1 : Int32) (x2 : Int32) (x3 : Int32)   (M : xM) (hm : xfr wr_X2_arrangeFault M0 M) : Fr wr_X2_arrangeFault M0 id (F_X2_arrangeFault x1 x2 x3  M) := by
  unfold F_X2_arrangeFault
  refine Fr.ite ?_ ?_
  · refine Fr.bind (fr_X1_put _ _ _ _ _) (by first | decide | simp [xwsub]) hm (fun q1 hm_q1 => ?_)
    exact Fr.somev hm_q1
  · refine Fr.ite ?_ ?_
    · refine Fr.bind (fr_X1_swap _ _ _ _ _) (by first | decide | simp [xwsub]) hm (fun q2 hm_q2 => ?_)
      exact Fr.somev hm_q2
    · refine Fr.ite ?_ ?_
      · exact Fr.somev (hm.setf (by first | decide | simp [xin]))
      · refine Fr.ite ?_ ?_
        · refine Fr.bind (fr_X1_put _ _ _ _ _) (by first | decide | simp [xwsub]) hm (fun q3 hm_q3 => ?_)
          exact Fr.somev hm_q3
        · exact Fr.somev (hm.setf (by first | decide | simp [xin]))
theorem fr_X2_arrangeFault  (x1 : Int32) (x2 : Int32) (x3 : Int32) (M : xM) : Fr wr_X2_arrangeFault M id (F_X2_arrangeFault  x1 x2 x3  M) := fr_X2_arrangeFault_b0 x1 x2 x3  M xfr.rf
abbrev wr_X2_arrange : List (Nat × Option Nat) := [(33, none), (34, none), (35, none), (6, some 8), (6, some 9)]
theorem fr_X2_arrange_b110 {M0 : xM} (fu : Nat)  (x1 : Int32) (x2 : Int32) {k55 : Int32 → xM → Option (xM)} (hk55 : ∀ (b0 : Int32) (M : xM), xfr wr_X2_arrange M0 M → Fr wr_X2_arrange M0 id (k55 b0 M)) (x3 : Int32) (M : xM) (hm : xfr wr_X2_arrange M0 M) : Fr wr_X2_arrange M0 id (F_X2_arrange_b110 fu x1 x2 k55 x3 M) := by
  unfold F_X2_arrange_b110
  exact hk55 _ _ hm
theorem fr_X2_arrange_b55 {M0 : xM} (fu : Nat)  (x1 : Int32) (x2 : Int32)  : ∀ (n : Nat) (x3 : Int32) (M : xM), xfr wr_X2_arrange M0 M → Fr wr_X2_arrange M0 id (F_X2_arrange_b55 fu x1 x2 n x3 M) := by
  intro n
  induction n with
  | zero =>
    intro x3 M hm
    exact Fr.none
  | succ n ih =>
    intro x3 M hm
    rw [F_X2_arrange_b55]
    refine Fr.ite ?_ ?_
    · exact Fr.somev hm
    · refine Fr.ite ?_ ?_
      · exact fr_X2_arrange_b110 fu x1 x2 ih _ _ hm
      · refine Fr.bind (fr_X2_arrangeFault _ _ _ _) (by first | decide | simp [xwsub]) hm (fun q1 hm_q1 => ?_)
        exact fr_X2_arrange_b110 fu x1 x2 ih _ _ hm_q1
theorem fr_X2_arrange_b2 {M0 : xM} (fu : Nat)  (x1 : Int32) (x2 : Int32)  : ∀ (n : Nat) (x3 : Int32) (M : xM), xfr wr_X2_arrange M0 M → Fr wr_X2_arrange M0 id (F_X2_arrange_b2 fu x1 x2 n x3 M) := by
  intro n
  induction n with
  | zero =>
    intro x3 M hm
    exact Fr.none
  | succ n ih =>
    intro x3 M hm
    rw [F_X2_arrange_b2]
    refine Fr.ite ?_ ?_
    · exact fr_X2_arrange_b55 fu x1 x2  fu _ _ ((hm.setf (by first | decide | simp [xin])).setf (by first | decide | simp [xin]))
    · refine Fr.bind (fr_X1_put _ _ _ _ _) (by first | decide | simp [xwsub]) hm (fun q1 hm_q1 => ?_)
      refine Fr.bind (fr_X1_put _ _ _ _ _) (by first | decide | simp [xwsub]) hm_q1 (fun q2 hm_q2 => ?_)
      refine Fr.bind (fr_X1_put _ _ _ _ _) (by first | decide | simp [xwsub]) hm_q2 (fun q3 hm_q3 => ?_)
      exact ih _ _ hm_q3
theorem fr_X2_arrange_b0 {M0 : xM} (fu : Nat)  (x1 : Int32) (x2 : Int32)   (M : xM) (hm : xfr wr_X2_arrange M0 M) : Fr wr_X2_arrange M0 id (F_X2_arrange fu x1 x2  M) := by
  unfold F_X2_arrange
  exact fr_X2_arrange_b2 fu x1 x2  fu _ _ hm
theorem fr_X2_arrange (fu : Nat)  (x1 : Int32) (x2 : Int32) (M : xM) : Fr wr_X2_arrange M id (F_X2_arrange fu x1 x2  M) := fr_X2_arrange_b0 fu x1 x2  M xfr.rf
abbrev wr_X2_layLever : List (Nat × Option Nat) := [(36, none), (37, none)]
theorem fr_X2_layLever_b0 {M0 : xM}  (x1 : Int32) (x2 : Int32) (x3 : Int32)   (M : xM) (hm : xfr wr_X2_layLever M0 M) : Fr wr_X2_layLever M0 Prod.snd (F_X2_layLever x1 x2 x3  M) := by
  unfold F_X2_layLever
  refine Fr.ite ?_ ?_
  · refine Fr.bind (fr_X1_put _ _ _ _ _) (by first | decide | simp [xwsub]) hm (fun q1 hm_q1 => ?_)
    refine Fr.bind (fr_X1_put _ _ _ _ _) (by first | decide | simp [xwsub]) hm_q1 (fun q2 hm_q2 => ?_)
    refine Fr.ite ?_ ?_
    · exact Fr.some hm_q2
    · refine Fr.ite ?_ ?_
      · exact Fr.some hm_q2
      · exact Fr.some hm_q2
  · refine Fr.bind (fr_X1_put _ _ _ _ _) (by first | decide | simp [xwsub]) hm (fun q3 hm_q3 => ?_)
    refine Fr.bind (fr_X1_put _ _ _ _ _) (by first | decide | simp [xwsub]) hm_q3 (fun q4 hm_q4 => ?_)
    refine Fr.ite ?_ ?_
    · exact Fr.some hm_q4
    · exact Fr.some hm_q4
theorem fr_X2_layLever  (x1 : Int32) (x2 : Int32) (x3 : Int32) (M : xM) : Fr wr_X2_layLever M Prod.snd (F_X2_layLever  x1 x2 x3  M) := fr_X2_layLever_b0 x1 x2 x3  M xfr.rf
abbrev wr_X2_layOffice : List (Nat × Option Nat) := [(38, none)]
theorem fr_X2_layOffice_b51 {M0 : xM} (fu : Nat)  (x1 : Int32) (x2 : Int32) {k14 : Int32 → Int32 → xM → Option (Int32 × xM)} (hk14 : ∀ (b0 : Int32) (b1 : Int32) (M : xM), xfr wr_X2_layOffice M0 M → Fr wr_X2_layOffice M0 Prod.snd (k14 b0 b1 M)) (x3 : Int32) (x4 : Int32) (M : xM) (hm : xfr wr_X2_layOffice M0 M) : Fr wr_X2_layOffice M0 Prod.snd (F_X2_layOffice_b51 fu x1 x2 k14 x3 x4 M) := by
  unfold F_X2_layOffice_b51
  exact hk14 _ _ _ hm
theorem fr_X2_layOffice_b170 {M0 : xM} (fu : Nat)  (x1 : Int32) (x2 : Int32) {k81 : Int32 → Int32 → Int32 → xM → Option (Int32 × xM)} (hk81 : ∀ (b0 : Int32) (b1 : Int32) (b2 : Int32) (M : xM), xfr wr_X2_layOffice M0 M → Fr wr_X2_layOffice M0 Prod.snd (k81 b0 b1 b2 M)) (x3 : Int32) (x4 : Int32) (x5 : Int32) (M : xM) (hm : xfr wr_X2_layOffice M0 M) : Fr wr_X2_layOffice M0 Prod.snd (F_X2_layOffice_b170 fu x1 x2 k81 x3 x4 x5 M) := by
  unfold F_X2_layOffice_b170
  exact hk81 _ _ _ _ hm
theorem fr_X2_layOffice_b135 {M0 : xM} (fu : Nat)  (x1 : Int32) (x2 : Int32) {k81 : Int32 → Int32 → Int32 → xM → Option (Int32 × xM)} (hk81 : ∀ (b0 : Int32) (b1 : Int32) (b2 : Int32) (M : xM), xfr wr_X2_layOffice M0 M → Fr wr_X2_layOffice M0 Prod.snd (k81 b0 b1 b2 M)) (x3 : Int32) (x4 : Int32) (x5 : Int32) (s0 : Int32) (M : xM) (hm : xfr wr_X2_layOffice M0 M) : Fr wr_X2_layOffice M0 Prod.snd (F_X2_layOffice_b135 fu x1 x2 k81 x3 x4 x5 s0 M) := by
  unfold F_X2_layOffice_b135
  refine Fr.bind (fr_X1_put _ _ _ _ _) (by first | decide | simp [xwsub]) hm (fun q1 hm_q1 => ?_)
  exact fr_X2_layOffice_b170 fu x1 x2 hk81 _ _ _ _ hm_q1
theorem fr_X2_layOffice_b81 {M0 : xM} (fu : Nat)  (x1 : Int32) (x2 : Int32)  : ∀ (n : Nat) (x3 : Int32) (x4 : Int32) (x5 : Int32) (M : xM), xfr wr_X2_layOffice M0 M → Fr wr_X2_layOffice M0 Prod.snd (F_X2_layOffice_b81 fu x1 x2 n x3 x4 x5 M) := by
  intro n
  induction n with
  | zero =>
    intro x3 x4 x5 M hm
    exact Fr.none
  | succ n ih =>
    intro x3 x4 x5 M hm
    rw [F_X2_layOffice_b81]
    refine Fr.ite ?_ ?_
    · exact Fr.some hm
    · refine Fr.ite ?_ ?_
      · exact fr_X2_layOffice_b170 fu x1 x2 ih _ _ _ _ hm
      · refine Fr.ite ?_ ?_
        · exact fr_X2_layOffice_b135 fu x1 x2 ih _ _ _ _ _ hm
        · exact fr_X2_layOffice_b135 fu x1 x2 ih _ _ _ _ _ hm
theorem fr_X2_layOffice_b78 {M0 : xM} (fu : Nat)  (x1 : Int32) (x2 : Int32)  (x3 : Int32) (x4 : Int32) (M : xM) (hm : xfr wr_X2_layOffice M0 M) : Fr wr_X2_layOffice M0 Prod.snd (F_X2_layOffice_b78 fu x1 x2 x3 x4 M) := by
  unfold F_X2_layOffice_b78
  exact fr_X2_layOffice_b81 fu x1 x2  fu _ _ _ _ hm
theorem fr_X2_layOffice_b14 {M0 : xM} (fu : Nat)  (x1 : Int32) (x2 : Int32)  : ∀ (n : Nat) (x3 : Int32) (x4 : Int32) (M : xM), xfr wr_X2_layOffice M0 M → Fr wr_X2_layOffice M0 Prod.snd (F_X2_layOffice_b14 fu x1 x2 n x3 x4 M) := by
  intro n
  induction n with
  | zero =>
    intro x3 x4 M hm
    exact Fr.none
  | succ n ih =>
    intro x3 x4 M hm
    rw [F_X2_layOffice_b14]
    refine Fr.ite ?_ ?_
    · refine Fr.ite ?_ ?_
      · refine Fr.ite ?_ ?_
        · exact fr_X2_layOffice_b78 fu x1 x2  _ _ _ hm
        · exact Fr.some hm
      · exact fr_X2_layOffice_b78 fu x1 x2  _ _ _ hm
    · refine Fr.ite ?_ ?_
      · exact fr_X2_layOffice_b51 fu x1 x2 ih _ _ _ hm
      · exact fr_X2_layOffice_b51 fu x1 x2 ih _ _ _ hm
theorem fr_X2_layOffice_b0 {M0 : xM} (fu : Nat)  (x1 : Int32) (x2 : Int32)   (M : xM) (hm : xfr wr_X2_layOffice M0 M) : Fr wr_X2_layOffice M0 Prod.snd (F_X2_layOffice fu x1 x2  M) := by
  unfold F_X2_layOffice
  exact fr_X2_layOffice_b14 fu x1 x2  fu _ _ _ hm
theorem fr_X2_layOffice (fu : Nat)  (x1 : Int32) (x2 : Int32) (M : xM) : Fr wr_X2_layOffice M Prod.snd (F_X2_layOffice fu x1 x2  M) := fr_X2_layOffice_b0 fu x1 x2  M xfr.rf
abbrev wr_X2_lay : List (Nat × Option Nat) := [(33, none), (34, none), (35, none), (36, none), (37, none), (38, none), (6, some 8), (6, some 9)]
theorem fr_X2_lay_b75 {M0 : xM} (fu : Nat)  (x1 : Int32) (x2 : Int32) {k38 : Int32 → Int32 → xM → Option (Int32 × xM)} (hk38 : ∀ (b0 : Int32) (b1 : Int32) (M : xM), xfr wr_X2_lay M0 M → Fr wr_X2_lay M0 Prod.snd (k38 b0 b1 M)) (x3 : Int32) (x4 : Int32) (M : xM) (hm : xfr wr_X2_lay M0 M) : Fr wr_X2_lay M0 Prod.snd (F_X2_lay_b75 fu x1 x2 k38 x3 x4 M) := by
  unfold F_X2_lay_b75
  exact hk38 _ _ _ hm
theorem fr_X2_lay_b84 {M0 : xM} (fu : Nat)  (x1 : Int32) (x2 : Int32)  : ∀ (n : Nat) (x3 : Int32) (x4 : Int32) (M : xM), xfr wr_X2_lay M0 M → Fr wr_X2_lay M0 Prod.snd (F_X2_lay_b84 fu x1 x2 n x3 x4 M) := by
  intro n
  induction n with
  | zero =>
    intro x3 x4 M hm
    exact Fr.none
  | succ n ih =>
    intro x3 x4 M hm
    rw [F_X2_lay_b84]
    refine Fr.ite ?_ ?_
    · exact Fr.some hm
    · refine Fr.bind (fr_X2_layOffice fu _ _ _) (by first | decide | simp [xwsub]) hm (fun q1 hm_q1 => ?_)
      refine Fr.ite ?_ ?_
      · exact Fr.some hm_q1
      · exact ih _ _ _ hm_q1
theorem fr_X2_lay_b38 {M0 : xM} (fu : Nat)  (x1 : Int32) (x2 : Int32)  : ∀ (n : Nat) (x3 : Int32) (x4 : Int32) (M : xM), xfr wr_X2_lay M0 M → Fr wr_X2_lay M0 Prod.snd (F_X2_lay_b38 fu x1 x2 n x3 x4 M) := by
  intro n
  induction n with
  | zero =>
    intro x3 x4 M hm
    exact Fr.none
  | succ n ih =>
    intro x3 x4 M hm
    rw [F_X2_lay_b38]
    refine Fr.ite ?_ ?_
    · exact fr_X2_lay_b84 fu x1 x2  fu _ _ _ hm
    · refine Fr.ite ?_ ?_
      · exact fr_X2_lay_b75 fu x1 x2 ih _ _ _ hm
      · refine Fr.bind (fr_X2_layLever _ _ _ _) (by first | decide | simp [xwsub]) hm (fun q1 hm_q1 => ?_)
        refine Fr.ite ?_ ?_
        · exact Fr.some hm_q1
        · exact fr_X2_lay_b75 fu x1 x2 ih _ _ _ hm_q1
theorem fr_X2_lay_b0 {M0 : xM} (fu : Nat)  (x1 : Int32) (x2 : Int32)   (M : xM) (hm : xfr wr_X2_lay M0 M) : Fr wr_X2_lay M0 Prod.snd (F_X2_lay fu x1 x2  M) := by
  unfold F_X2_lay
  refine Fr.ite ?_ ?_
  · exact Fr.some hm
  · refine Fr.bind (fr_X2_arrange fu _ _ _) (by first | decide | simp [xwsub]) hm (fun q1 hm_q1 => ?_)
    exact fr_X2_lay_b38 fu x1 x2  fu _ _ _ hm_q1
theorem fr_X2_lay (fu : Nat)  (x1 : Int32) (x2 : Int32) (M : xM) : Fr wr_X2_lay M Prod.snd (F_X2_lay fu x1 x2  M) := fr_X2_lay_b0 fu x1 x2  M xfr.rf
abbrev wr_X2_howMany : List (Nat × Option Nat) := [(33, none), (34, none), (35, none), (36, none), (37, none), (38, none), (6, some 8), (6, some 9)]
theorem fr_X2_howMany_b25 {M0 : xM} (fu : Nat)  (x1 : Int32) {k4 : Int32 → Int32 → xM → Option (Int32 × xM)} (hk4 : ∀ (b0 : Int32) (b1 : Int32) (M : xM), xfr wr_X2_howMany M0 M → Fr wr_X2_howMany M0 Prod.snd (k4 b0 b1 M)) (x2 : Int32) (x3 : Int32) (M : xM) (hm : xfr wr_X2_howMany M0 M) : Fr wr_X2_howMany M0 Prod.snd (F_X2_howMany_b25 fu x1 k4 x2 x3 M) := by
  unfold F_X2_howMany_b25
  exact hk4 _ _ _ hm
theorem fr_X2_howMany_b4 {M0 : xM} (fu : Nat)  (x1 : Int32)  : ∀ (n : Nat) (x2 : Int32) (x3 : Int32) (M : xM), xfr wr_X2_howMany M0 M → Fr wr_X2_howMany M0 Prod.snd (F_X2_howMany_b4 fu x1 n x2 x3 M) := by
  intro n
  induction n with
  | zero =>
    intro x2 x3 M hm
    exact Fr.none
  | succ n ih =>
    intro x2 x3 M hm
    rw [F_X2_howMany_b4]
    refine Fr.ite ?_ ?_
    · exact Fr.some hm
    · refine Fr.bind (fr_X2_lay fu _ _ _) (by first | decide | simp [xwsub]) hm (fun q1 hm_q1 => ?_)
      refine Fr.ite ?_ ?_
      · exact fr_X2_howMany_b25 fu x1 ih _ _ _ hm_q1
      · exact fr_X2_howMany_b25 fu x1 ih _ _ _ hm_q1
theorem fr_X2_howMany_b0 {M0 : xM} (fu : Nat)  (x1 : Int32)   (M : xM) (hm : xfr wr_X2_howMany M0 M) : Fr wr_X2_howMany M0 Prod.snd (F_X2_howMany fu x1  M) := by
  unfold F_X2_howMany
  exact fr_X2_howMany_b4 fu x1  fu _ _ _ hm
theorem fr_X2_howMany (fu : Nat)  (x1 : Int32) (M : xM) : Fr wr_X2_howMany M Prod.snd (F_X2_howMany fu x1  M) := fr_X2_howMany_b0 fu x1  M xfr.rf
abbrev wr_X2_numbered : List (Nat × Option Nat) := [(33, none), (34, none), (35, none), (36, none), (37, none), (38, none), (6, some 8), (6, some 9)]
theorem fr_X2_numbered_b36 {M0 : xM} (fu : Nat)  (x1 : Int32) (x2 : Int32) {k5 : Int32 → Int32 → xM → Option (Int32 × xM)} (hk5 : ∀ (b0 : Int32) (b1 : Int32) (M : xM), xfr wr_X2_numbered M0 M → Fr wr_X2_numbered M0 Prod.snd (k5 b0 b1 M)) (x3 : Int32) (x4 : Int32) (M : xM) (hm : xfr wr_X2_numbered M0 M) : Fr wr_X2_numbered M0 Prod.snd (F_X2_numbered_b36 fu x1 x2 k5 x3 x4 M) := by
  unfold F_X2_numbered_b36
  exact hk5 _ _ _ hm
theorem fr_X2_numbered_b5 {M0 : xM} (fu : Nat)  (x1 : Int32) (x2 : Int32)  : ∀ (n : Nat) (x3 : Int32) (x4 : Int32) (M : xM), xfr wr_X2_numbered M0 M → Fr wr_X2_numbered M0 Prod.snd (F_X2_numbered_b5 fu x1 x2 n x3 x4 M) := by
  intro n
  induction n with
  | zero =>
    intro x3 x4 M hm
    exact Fr.none
  | succ n ih =>
    intro x3 x4 M hm
    rw [F_X2_numbered_b5]
    refine Fr.ite ?_ ?_
    · exact Fr.some hm
    · refine Fr.bind (fr_X2_lay fu _ _ _) (by first | decide | simp [xwsub]) hm (fun q1 hm_q1 => ?_)
      refine Fr.ite ?_ ?_
      · exact fr_X2_numbered_b36 fu x1 x2 ih _ _ _ hm_q1
      · refine Fr.ite ?_ ?_
        · exact Fr.some hm_q1
        · exact fr_X2_numbered_b36 fu x1 x2 ih _ _ _ hm_q1
theorem fr_X2_numbered_b0 {M0 : xM} (fu : Nat)  (x1 : Int32) (x2 : Int32)   (M : xM) (hm : xfr wr_X2_numbered M0 M) : Fr wr_X2_numbered M0 Prod.snd (F_X2_numbered fu x1 x2  M) := by
  unfold F_X2_numbered
  exact fr_X2_numbered_b5 fu x1 x2  fu _ _ _ hm
theorem fr_X2_numbered (fu : Nat)  (x1 : Int32) (x2 : Int32) (M : xM) : Fr wr_X2_numbered M Prod.snd (F_X2_numbered fu x1 x2  M) := fr_X2_numbered_b0 fu x1 x2  M xfr.rf
abbrev wr_X2_fewest : List (Nat × Option Nat) := [(33, none), (34, none), (35, none), (36, none), (37, none), (38, none), (6, some 8), (6, some 9)]
theorem fr_X2_fewest_b37 {M0 : xM} (fu : Nat)  (x1 : Int32) {k4 : Int32 → Int32 → xM → Option (Int32 × xM)} (hk4 : ∀ (b0 : Int32) (b1 : Int32) (M : xM), xfr wr_X2_fewest M0 M → Fr wr_X2_fewest M0 Prod.snd (k4 b0 b1 M)) (x2 : Int32) (x3 : Int32) (M : xM) (hm : xfr wr_X2_fewest M0 M) : Fr wr_X2_fewest M0 Prod.snd (F_X2_fewest_b37 fu x1 k4 x2 x3 M) := by
  unfold F_X2_fewest_b37
  exact hk4 _ _ _ hm
theorem fr_X2_fewest_b26 {M0 : xM} (fu : Nat)  (x1 : Int32) {k4 : Int32 → Int32 → xM → Option (Int32 × xM)} (hk4 : ∀ (b0 : Int32) (b1 : Int32) (M : xM), xfr wr_X2_fewest M0 M → Fr wr_X2_fewest M0 Prod.snd (k4 b0 b1 M)) (x2 : Int32) (x3 : Int32) (M : xM) (hm : xfr wr_X2_fewest M0 M) : Fr wr_X2_fewest M0 Prod.snd (F_X2_fewest_b26 fu x1 k4 x2 x3 M) := by
  unfold F_X2_fewest_b26
  refine Fr.bind (fr_X2_lay fu _ _ _) (by first | decide | simp [xwsub]) hm (fun q1 hm_q1 => ?_)
  refine Fr.ite ?_ ?_
  · exact fr_X2_fewest_b37 fu x1 hk4 _ _ _ hm_q1
  · exact fr_X2_fewest_b37 fu x1 hk4 _ _ _ hm_q1
theorem fr_X2_fewest_b4 {M0 : xM} (fu : Nat)  (x1 : Int32)  : ∀ (n : Nat) (x2 : Int32) (x3 : Int32) (M : xM), xfr wr_X2_fewest M0 M → Fr wr_X2_fewest M0 Prod.snd (F_X2_fewest_b4 fu x1 n x2 x3 M) := by
  intro n
  induction n with
  | zero =>
    intro x2 x3 M hm
    exact Fr.none
  | succ n ih =>
    intro x2 x3 M hm
    rw [F_X2_fewest_b4]
    refine Fr.ite ?_ ?_
    · exact Fr.some hm
    · refine Fr.ite ?_ ?_
      · exact fr_X2_fewest_b26 fu x1 ih _ _ _ hm
      · refine Fr.ite ?_ ?_
        · exact fr_X2_fewest_b37 fu x1 ih _ _ _ hm
        · exact fr_X2_fewest_b26 fu x1 ih _ _ _ hm
theorem fr_X2_fewest_b0 {M0 : xM} (fu : Nat)  (x1 : Int32)   (M : xM) (hm : xfr wr_X2_fewest M0 M) : Fr wr_X2_fewest M0 Prod.snd (F_X2_fewest fu x1  M) := by
  unfold F_X2_fewest
  exact fr_X2_fewest_b4 fu x1  fu _ _ _ hm
theorem fr_X2_fewest (fu : Nat)  (x1 : Int32) (M : xM) : Fr wr_X2_fewest M Prod.snd (F_X2_fewest fu x1  M) := fr_X2_fewest_b0 fu x1  M xfr.rf
abbrev wr_X2_inAll : List (Nat × Option Nat) := [(33, none), (34, none), (35, none), (36, none), (37, none), (38, none), (6, some 8), (6, some 9)]
theorem fr_X2_inAll_b35 {M0 : xM} (fu : Nat)  (x1 : Int32) {k4 : Int32 → Int32 → xM → Option (Int32 × xM)} (hk4 : ∀ (b0 : Int32) (b1 : Int32) (M : xM), xfr wr_X2_inAll M0 M → Fr wr_X2_inAll M0 Prod.snd (k4 b0 b1 M)) (x2 : Int32) (x3 : Int32) (M : xM) (hm : xfr wr_X2_inAll M0 M) : Fr wr_X2_inAll M0 Prod.snd (F_X2_inAll_b35 fu x1 k4 x2 x3 M) := by
  unfold F_X2_inAll_b35
  exact hk4 _ _ _ hm
theorem fr_X2_inAll_b34 {M0 : xM} (fu : Nat)  (x1 : Int32) {k4 : Int32 → Int32 → xM → Option (Int32 × xM)} (hk4 : ∀ (b0 : Int32) (b1 : Int32) (M : xM), xfr wr_X2_inAll M0 M → Fr wr_X2_inAll M0 Prod.snd (k4 b0 b1 M)) (x3 : Int32) (s0 : Int32) (M : xM) (hm : xfr wr_X2_inAll M0 M) : Fr wr_X2_inAll M0 Prod.snd (F_X2_inAll_b34 fu x1 k4 x3 s0 M) := by
  unfold F_X2_inAll_b34
  exact fr_X2_inAll_b35 fu x1 hk4 _ _ _ hm
theorem fr_X2_inAll_b4 {M0 : xM} (fu : Nat)  (x1 : Int32)  : ∀ (n : Nat) (x2 : Int32) (x3 : Int32) (M : xM), xfr wr_X2_inAll M0 M → Fr wr_X2_inAll M0 Prod.snd (F_X2_inAll_b4 fu x1 n x2 x3 M) := by
  intro n
  induction n with
  | zero =>
    intro x2 x3 M hm
    exact Fr.none
  | succ n ih =>
    intro x2 x3 M hm
    rw [F_X2_inAll_b4]
    refine Fr.ite ?_ ?_
    · exact Fr.some hm
    · refine Fr.bind (fr_X2_lay fu _ _ _) (by first | decide | simp [xwsub]) hm (fun q1 hm_q1 => ?_)
      refine Fr.ite ?_ ?_
      · exact fr_X2_inAll_b35 fu x1 ih _ _ _ hm_q1
      · refine Fr.ite ?_ ?_
        · exact fr_X2_inAll_b34 fu x1 ih _ _ _ hm_q1
        · exact fr_X2_inAll_b34 fu x1 ih _ _ _ hm_q1
theorem fr_X2_inAll_b0 {M0 : xM} (fu : Nat)  (x1 : Int32)   (M : xM) (hm : xfr wr_X2_inAll M0 M) : Fr wr_X2_inAll M0 Prod.snd (F_X2_inAll fu x1  M) := by
  unfold F_X2_inAll
  exact fr_X2_inAll_b4 fu x1  fu _ _ _ hm
theorem fr_X2_inAll (fu : Nat)  (x1 : Int32) (M : xM) : Fr wr_X2_inAll M Prod.snd (F_X2_inAll fu x1  M) := fr_X2_inAll_b0 fu x1  M xfr.rf
abbrev wr_X2_inSome : List (Nat × Option Nat) := [(33, none), (34, none), (35, none), (36, none), (37, none), (38, none), (6, some 8), (6, some 9)]
theorem fr_X2_inSome_b35 {M0 : xM} (fu : Nat)  (x1 : Int32) {k4 : Int32 → Int32 → xM → Option (Int32 × xM)} (hk4 : ∀ (b0 : Int32) (b1 : Int32) (M : xM), xfr wr_X2_inSome M0 M → Fr wr_X2_inSome M0 Prod.snd (k4 b0 b1 M)) (x2 : Int32) (x3 : Int32) (M : xM) (hm : xfr wr_X2_inSome M0 M) : Fr wr_X2_inSome M0 Prod.snd (F_X2_inSome_b35 fu x1 k4 x2 x3 M) := by
  unfold F_X2_inSome_b35
  exact hk4 _ _ _ hm
theorem fr_X2_inSome_b34 {M0 : xM} (fu : Nat)  (x1 : Int32) {k4 : Int32 → Int32 → xM → Option (Int32 × xM)} (hk4 : ∀ (b0 : Int32) (b1 : Int32) (M : xM), xfr wr_X2_inSome M0 M → Fr wr_X2_inSome M0 Prod.snd (k4 b0 b1 M)) (x3 : Int32) (s0 : Int32) (M : xM) (hm : xfr wr_X2_inSome M0 M) : Fr wr_X2_inSome M0 Prod.snd (F_X2_inSome_b34 fu x1 k4 x3 s0 M) := by
  unfold F_X2_inSome_b34
  exact fr_X2_inSome_b35 fu x1 hk4 _ _ _ hm
theorem fr_X2_inSome_b4 {M0 : xM} (fu : Nat)  (x1 : Int32)  : ∀ (n : Nat) (x2 : Int32) (x3 : Int32) (M : xM), xfr wr_X2_inSome M0 M → Fr wr_X2_inSome M0 Prod.snd (F_X2_inSome_b4 fu x1 n x2 x3 M) := by
  intro n
  induction n with
  | zero =>
    intro x2 x3 M hm
    exact Fr.none
  | succ n ih =>
    intro x2 x3 M hm
    rw [F_X2_inSome_b4]
    refine Fr.ite ?_ ?_
    · exact Fr.some hm
    · refine Fr.bind (fr_X2_lay fu _ _ _) (by first | decide | simp [xwsub]) hm (fun q1 hm_q1 => ?_)
      refine Fr.ite ?_ ?_
      · exact fr_X2_inSome_b35 fu x1 ih _ _ _ hm_q1
      · refine Fr.ite ?_ ?_
        · exact fr_X2_inSome_b34 fu x1 ih _ _ _ hm_q1
        · exact fr_X2_inSome_b34 fu x1 ih _ _ _ hm_q1
theorem fr_X2_inSome_b0 {M0 : xM} (fu : Nat)  (x1 : Int32)   (M : xM) (hm : xfr wr_X2_inSome M0 M) : Fr wr_X2_inSome M0 Prod.snd (F_X2_inSome fu x1  M) := by
  unfold F_X2_inSome
  exact fr_X2_inSome_b4 fu x1  fu _ _ _ hm
theorem fr_X2_inSome (fu : Nat)  (x1 : Int32) (M : xM) : Fr wr_X2_inSome M Prod.snd (F_X2_inSome fu x1  M) := fr_X2_inSome_b0 fu x1  M xfr.rf
abbrev wr_X8_counts : List (Nat × Option Nat) := [(33, none), (34, none), (35, none), (36, none), (37, none), (38, none), (6, some 8), (6, some 9)]
theorem fr_X8_counts_b22 {M0 : xM} (fu : Nat)  (x1 : Int32) (x2 : Int32)   (M : xM) (hm : xfr wr_X8_counts M0 M) : Fr wr_X8_counts M0 Prod.snd (F_X8_counts_b22 fu x1 x2  M) := by
  unfold F_X8_counts_b22
  refine Fr.bind (fr_X2_lay fu _ _ _) (by first | decide | simp [xwsub]) hm (fun q1 hm_q1 => ?_)
  refine Fr.ite ?_ ?_
  · exact Fr.some hm_q1
  · exact Fr.some hm_q1
theorem fr_X8_counts_b0 {M0 : xM} (fu : Nat)  (x1 : Int32) (x2 : Int32)   (M : xM) (hm : xfr wr_X8_counts M0 M) : Fr wr_X8_counts M0 Prod.snd (F_X8_counts fu x1 x2  M) := by
  unfold F_X8_counts
  refine Fr.ite ?_ ?_
  · exact fr_X8_counts_b22 fu x1 x2   _ hm
  · refine Fr.ite ?_ ?_
    · exact fr_X8_counts_b22 fu x1 x2   _ hm
    · exact Fr.some hm
theorem fr_X8_counts (fu : Nat)  (x1 : Int32) (x2 : Int32) (M : xM) : Fr wr_X8_counts M Prod.snd (F_X8_counts fu x1 x2  M) := fr_X8_counts_b0 fu x1 x2  M xfr.rf
abbrev wr_X8_pullsAt : List (Nat × Option Nat) := [(33, none), (34, none), (35, none), (36, none), (37, none), (38, none), (6, some 8), (6, some 9)]
theorem fr_X8_pullsAt_b86 {M0 : xM} (fu : Nat)  (x1 : Int32) (x2 : Int32) (x3 : Int32) {k6 : Int32 → Int32 → xM → Option (Int32 × xM)} (hk6 : ∀ (b0 : Int32) (b1 : Int32) (M : xM), xfr wr_X8_pullsAt M0 M → Fr wr_X8_pullsAt M0 Prod.snd (k6 b0 b1 M)) (x4 : Int32) (x5 : Int32) (M : xM) (hm : xfr wr_X8_pullsAt M0 M) : Fr wr_X8_pullsAt M0 Prod.snd (F_X8_pullsAt_b86 fu x1 x2 x3 k6 x4 x5 M) := by
  unfold F_X8_pullsAt_b86
  exact hk6 _ _ _ hm
theorem fr_X8_pullsAt_b66 {M0 : xM} (fu : Nat)  (x1 : Int32) (x2 : Int32) (x3 : Int32) {k6 : Int32 → Int32 → xM → Option (Int32 × xM)} (hk6 : ∀ (b0 : Int32) (b1 : Int32) (M : xM), xfr wr_X8_pullsAt M0 M → Fr wr_X8_pullsAt M0 Prod.snd (k6 b0 b1 M)) (x5 : Int32) (s0 : Int32) (M : xM) (hm : xfr wr_X8_pullsAt M0 M) : Fr wr_X8_pullsAt M0 Prod.snd (F_X8_pullsAt_b66 fu x1 x2 x3 k6 x5 s0 M) := by
  unfold F_X8_pullsAt_b66
  exact fr_X8_pullsAt_b86 fu x1 x2 x3 hk6 _ _ _ hm
theorem fr_X8_pullsAt_b6 {M0 : xM} (fu : Nat)  (x1 : Int32) (x2 : Int32) (x3 : Int32)  : ∀ (n : Nat) (x4 : Int32) (x5 : Int32) (M : xM), xfr wr_X8_pullsAt M0 M → Fr wr_X8_pullsAt M0 Prod.snd (F_X8_pullsAt_b6 fu x1 x2 x3 n x4 x5 M) := by
  intro n
  induction n with
  | zero =>
    intro x4 x5 M hm
    exact Fr.none
  | succ n ih =>
    intro x4 x5 M hm
    rw [F_X8_pullsAt_b6]
    refine Fr.ite ?_ ?_
    · exact Fr.some hm
    · refine Fr.bind (fr_X8_counts fu _ _ _) (by first | decide | simp [xwsub]) hm (fun q1 hm_q1 => ?_)
      refine Fr.ite ?_ ?_
      · exact fr_X8_pullsAt_b86 fu x1 x2 x3 ih _ _ _ hm_q1
      · refine Fr.ite ?_ ?_
        · refine Fr.ite ?_ ?_
          · exact fr_X8_pullsAt_b66 fu x1 x2 x3 ih _ _ _ hm_q1
          · exact fr_X8_pullsAt_b66 fu x1 x2 x3 ih _ _ _ hm_q1
        · exact fr_X8_pullsAt_b86 fu x1 x2 x3 ih _ _ _ hm_q1
theorem fr_X8_pullsAt_b0 {M0 : xM} (fu : Nat)  (x1 : Int32) (x2 : Int32) (x3 : Int32)   (M : xM) (hm : xfr wr_X8_pullsAt M0 M) : Fr wr_X8_pullsAt M0 Prod.snd (F_X8_pullsAt fu x1 x2 x3  M) := by
  unfold F_X8_pullsAt
  exact fr_X8_pullsAt_b6 fu x1 x2 x3  fu _ _ _ hm
theorem fr_X8_pullsAt (fu : Nat)  (x1 : Int32) (x2 : Int32) (x3 : Int32) (M : xM) : Fr wr_X8_pullsAt M Prod.snd (F_X8_pullsAt fu x1 x2 x3  M) := fr_X8_pullsAt_b0 fu x1 x2 x3  M xfr.rf
abbrev wr_X8_pullsOverAll : List (Nat × Option Nat) := [(33, none), (34, none), (35, none), (36, none), (37, none), (38, none), (6, some 8), (6, some 9)]
theorem fr_X8_pullsOverAll_b5 {M0 : xM} (fu : Nat)  (x1 : Int32) (x2 : Int32)  : ∀ (n : Nat) (x3 : Int32) (x4 : Int32) (M : xM), xfr wr_X8_pullsOverAll M0 M → Fr wr_X8_pullsOverAll M0 Prod.snd (F_X8_pullsOverAll_b5 fu x1 x2 n x3 x4 M) := by
  intro n
  induction n with
  | zero =>
    intro x3 x4 M hm
    exact Fr.none
  | succ n ih =>
    intro x3 x4 M hm
    rw [F_X8_pullsOverAll_b5]
    refine Fr.ite ?_ ?_
    · exact Fr.some hm
    · refine Fr.bind (fr_X8_pullsAt fu _ _ _ _) (by first | decide | simp [xwsub]) hm (fun q1 hm_q1 => ?_)
      refine Fr.ite ?_ ?_
      · exact Fr.some hm_q1
      · exact ih _ _ _ hm_q1
theorem fr_X8_pullsOverAll_b0 {M0 : xM} (fu : Nat)  (x1 : Int32) (x2 : Int32)   (M : xM) (hm : xfr wr_X8_pullsOverAll M0 M) : Fr wr_X8_pullsOverAll M0 Prod.snd (F_X8_pullsOverAll fu x1 x2  M) := by
  unfold F_X8_pullsOverAll
  exact fr_X8_pullsOverAll_b5 fu x1 x2  fu _ _ _ hm
theorem fr_X8_pullsOverAll (fu : Nat)  (x1 : Int32) (x2 : Int32) (M : xM) : Fr wr_X8_pullsOverAll M Prod.snd (F_X8_pullsOverAll fu x1 x2  M) := fr_X8_pullsOverAll_b0 fu x1 x2  M xfr.rf
abbrev wr_X8_lower (r1 : Nat) : List (Nat × Option Nat) := [(r1, none)]
theorem fr_X8_lower_b100 {M0 : xM} (fu : Nat)  (r1 n1 : Nat) (x2 : Int32) (x3 : Int32) (x4 : Int32) {k3 : Int32 → xM → Option (xM)} (hk3 : ∀ (b0 : Int32) (M : xM), xfr (wr_X8_lower r1) M0 M → Fr (wr_X8_lower r1) M0 id (k3 b0 M)) {k18 : Int32 → Int32 → xM → Option (xM)} (hk18 : ∀ (b0 : Int32) (b1 : Int32) (M : xM), xfr (wr_X8_lower r1) M0 M → Fr (wr_X8_lower r1) M0 id (k18 b0 b1 M)) (x5 : Int32) (x6 : Int32) (M : xM) (hm : xfr (wr_X8_lower r1) M0 M) : Fr (wr_X8_lower r1) M0 id (F_X8_lower_b100 fu r1 n1 x2 x3 x4 k3 k18 x5 x6 M) := by
  unfold F_X8_lower_b100
  exact hk18 _ _ _ hm
theorem fr_X8_lower_b106 {M0 : xM} (fu : Nat)  (r1 n1 : Nat) (x2 : Int32) (x3 : Int32) (x4 : Int32) {k3 : Int32 → xM → Option (xM)} (hk3 : ∀ (b0 : Int32) (M : xM), xfr (wr_X8_lower r1) M0 M → Fr (wr_X8_lower r1) M0 id (k3 b0 M)) (x5 : Int32) (M : xM) (hm : xfr (wr_X8_lower r1) M0 M) : Fr (wr_X8_lower r1) M0 id (F_X8_lower_b106 fu r1 n1 x2 x3 x4 k3 x5 M) := by
  unfold F_X8_lower_b106
  exact hk3 _ _ hm
theorem fr_X8_lower_b18 {M0 : xM} (fu : Nat)  (r1 n1 : Nat) (x2 : Int32) (x3 : Int32) (x4 : Int32) {k3 : Int32 → xM → Option (xM)} (hk3 : ∀ (b0 : Int32) (M : xM), xfr (wr_X8_lower r1) M0 M → Fr (wr_X8_lower r1) M0 id (k3 b0 M)) : ∀ (n : Nat) (x5 : Int32) (x6 : Int32) (M : xM), xfr (wr_X8_lower r1) M0 M → Fr (wr_X8_lower r1) M0 id (F_X8_lower_b18 fu r1 n1 x2 x3 x4 k3 n x5 x6 M) := by
  intro n
  induction n with
  | zero =>
    intro x5 x6 M hm
    exact Fr.none
  | succ n ih =>
    intro x5 x6 M hm
    rw [F_X8_lower_b18]
    refine Fr.ite ?_ ?_
    · exact fr_X8_lower_b106 fu r1 n1 x2 x3 x4 hk3 _ _ hm
    · refine Fr.ite ?_ ?_
      · exact fr_X8_lower_b106 fu r1 n1 x2 x3 x4 hk3 _ _ hm
      · refine Fr.ite ?_ ?_
        · exact fr_X8_lower_b100 fu r1 n1 x2 x3 x4 hk3 ih _ _ _ hm
        · refine Fr.bind (fr_X1_put _ _ _ _ _) (by first | decide | simp [xwsub]) hm (fun q1 hm_q1 => ?_)
          exact fr_X8_lower_b100 fu r1 n1 x2 x3 x4 hk3 ih _ _ _ hm_q1
theorem fr_X8_lower_b3 {M0 : xM} (fu : Nat)  (r1 n1 : Nat) (x2 : Int32) (x3 : Int32) (x4 : Int32)  : ∀ (n : Nat) (x5 : Int32) (M : xM), xfr (wr_X8_lower r1) M0 M → Fr (wr_X8_lower r1) M0 id (F_X8_lower_b3 fu r1 n1 x2 x3 x4 n x5 M) := by
  intro n
  induction n with
  | zero =>
    intro x5 M hm
    exact Fr.none
  | succ n ih =>
    intro x5 M hm
    rw [F_X8_lower_b3]
    refine Fr.ite ?_ ?_
    · exact Fr.somev hm
    · exact fr_X8_lower_b18 fu r1 n1 x2 x3 x4 ih fu _ _ _ hm
theorem fr_X8_lower_b0 {M0 : xM} (fu : Nat)  (r1 n1 : Nat) (x2 : Int32) (x3 : Int32) (x4 : Int32)   (M : xM) (hm : xfr (wr_X8_lower r1) M0 M) : Fr (wr_X8_lower r1) M0 id (F_X8_lower fu r1 n1 x2 x3 x4  M) := by
  unfold F_X8_lower
  exact fr_X8_lower_b3 fu r1 n1 x2 x3 x4  fu _ _ hm
theorem fr_X8_lower (fu : Nat)  (r1 n1 : Nat) (x2 : Int32) (x3 : Int32) (x4 : Int32) (M : xM) : Fr (wr_X8_lower r1) M id (F_X8_lower fu r1 n1 x2 x3 x4  M) := fr_X8_lower_b0 fu r1 n1 x2 x3 x4  M xfr.rf
abbrev wr_X8_weigh : List (Nat × Option Nat) := [(33, none), (34, none), (35, none), (36, none), (37, none), (38, none), (39, none), (6, some 8), (6, some 9)]
theorem fr_X8_weigh_b90 {M0 : xM} (fu : Nat)  (x1 : Int32) (x2 : Int32) {k2 : Int32 → xM → Option (Int32 × xM)} (hk2 : ∀ (b0 : Int32) (M : xM), xfr wr_X8_weigh M0 M → Fr wr_X8_weigh M0 Prod.snd (k2 b0 M)) {k53 : Int32 → Int32 → Int32 → xM → Option (Int32 × xM)} (hk53 : ∀ (b0 : Int32) (b1 : Int32) (b2 : Int32) (M : xM), xfr wr_X8_weigh M0 M → Fr wr_X8_weigh M0 Prod.snd (k53 b0 b1 b2 M)) (x3 : Int32) (x4 : Int32) (x5 : Int32) (M : xM) (hm : xfr wr_X8_weigh M0 M) : Fr wr_X8_weigh M0 Prod.snd (F_X8_weigh_b90 fu x1 x2 k2 k53 x3 x4 x5 M) := by
  unfold F_X8_weigh_b90
  exact hk53 _ _ _ _ hm
theorem fr_X8_weigh_b53 {M0 : xM} (fu : Nat)  (x1 : Int32) (x2 : Int32) {k2 : Int32 → xM → Option (Int32 × xM)} (hk2 : ∀ (b0 : Int32) (M : xM), xfr wr_X8_weigh M0 M → Fr wr_X8_weigh M0 Prod.snd (k2 b0 M)) : ∀ (n : Nat) (x3 : Int32) (x4 : Int32) (x5 : Int32) (M : xM), xfr wr_X8_weigh M0 M → Fr wr_X8_weigh M0 Prod.snd (F_X8_weigh_b53 fu x1 x2 k2 n x3 x4 x5 M) := by
  intro n
  induction n with
  | zero =>
    intro x3 x4 x5 M hm
    exact Fr.none
  | succ n ih =>
    intro x3 x4 x5 M hm
    rw [F_X8_weigh_b53]
    refine Fr.ite ?_ ?_
    · refine Fr.ite ?_ ?_
      · exact Fr.some hm
      · exact hk2 _ _ hm
    · refine Fr.bind (fr_X8_counts fu _ _ _) (by first | decide | simp [xwsub]) hm (fun q1 hm_q1 => ?_)
      refine Fr.ite ?_ ?_
      · exact fr_X8_weigh_b90 fu x1 x2 hk2 ih _ _ _ _ hm_q1
      · refine Fr.bind (fr_X8_lower fu _ _ _ _ _ _) (by first | decide | simp [xwsub]) hm_q1 (fun q2 hm_q2 => ?_)
        exact fr_X8_weigh_b90 fu x1 x2 hk2 ih _ _ _ _ hm_q2
theorem fr_X8_weigh_b16 {M0 : xM} (fu : Nat)  (x1 : Int32) (x2 : Int32) {k2 : Int32 → xM → Option (Int32 × xM)} (hk2 : ∀ (b0 : Int32) (M : xM), xfr wr_X8_weigh M0 M → Fr wr_X8_weigh M0 Prod.snd (k2 b0 M)) : ∀ (n : Nat) (x3 : Int32) (x4 : Int32) (M : xM), xfr wr_X8_weigh M0 M → Fr wr_X8_weigh M0 Prod.snd (F_X8_weigh_b16 fu x1 x2 k2 n x3 x4 M) := by
  intro n
  induction n with
  | zero =>
    intro x3 x4 M hm
    exact Fr.none
  | succ n ih =>
    intro x3 x4 M hm
    rw [F_X8_weigh_b16]
    refine Fr.ite ?_ ?_
    · exact fr_X8_weigh_b53 fu x1 x2 hk2 fu _ _ _ _ hm
    · refine Fr.bind (fr_X1_put _ _ _ _ _) (by first | decide | simp [xwsub]) hm (fun q1 hm_q1 => ?_)
      exact ih _ _ _ hm_q1
theorem fr_X8_weigh_b2 {M0 : xM} (fu : Nat)  (x1 : Int32) (x2 : Int32)  : ∀ (n : Nat) (x3 : Int32) (M : xM), xfr wr_X8_weigh M0 M → Fr wr_X8_weigh M0 Prod.snd (F_X8_weigh_b2 fu x1 x2 n x3 M) := by
  intro n
  induction n with
  | zero =>
    intro x3 M hm
    exact Fr.none
  | succ n ih =>
    intro x3 M hm
    rw [F_X8_weigh_b2]
    refine Fr.ite ?_ ?_
    · exact Fr.some hm
    · exact fr_X8_weigh_b16 fu x1 x2 ih fu _ _ _ hm
theorem fr_X8_weigh_b0 {M0 : xM} (fu : Nat)  (x1 : Int32) (x2 : Int32)   (M : xM) (hm : xfr wr_X8_weigh M0 M) : Fr wr_X8_weigh M0 Prod.snd (F_X8_weigh fu x1 x2  M) := by
  unfold F_X8_weigh
  exact fr_X8_weigh_b2 fu x1 x2  fu _ _ hm
theorem fr_X8_weigh (fu : Nat)  (x1 : Int32) (x2 : Int32) (M : xM) : Fr wr_X8_weigh M Prod.snd (F_X8_weigh fu x1 x2  M) := fr_X8_weigh_b0 fu x1 x2  M xfr.rf
abbrev wr_X8_weighOpened : List (Nat × Option Nat) := [(33, none), (34, none), (35, none), (36, none), (37, none), (38, none), (40, none), (6, some 8), (6, some 9)]
theorem fr_X8_weighOpened_b77 {M0 : xM} (fu : Nat)  (x1 : Int32) (x2 : Int32) {k2 : Int32 → xM → Option (xM)} (hk2 : ∀ (b0 : Int32) (M : xM), xfr wr_X8_weighOpened M0 M → Fr wr_X8_weighOpened M0 id (k2 b0 M)) (x3 : Int32) (M : xM) (hm : xfr wr_X8_weighOpened M0 M) : Fr wr_X8_weighOpened M0 id (F_X8_weighOpened_b77 fu x1 x2 k2 x3 M) := by
  unfold F_X8_weighOpened_b77
  exact hk2 _ _ hm
theorem fr_X8_weighOpened_b16 {M0 : xM} (fu : Nat)  (x1 : Int32) (x2 : Int32) {k2 : Int32 → xM → Option (xM)} (hk2 : ∀ (b0 : Int32) (M : xM), xfr wr_X8_weighOpened M0 M → Fr wr_X8_weighOpened M0 id (k2 b0 M)) : ∀ (n : Nat) (x3 : Int32) (x4 : Int32) (M : xM), xfr wr_X8_weighOpened M0 M → Fr wr_X8_weighOpened M0 id (F_X8_weighOpened_b16 fu x1 x2 k2 n x3 x4 M) := by
  intro n
  induction n with
  | zero =>
    intro x3 x4 M hm
    exact Fr.none
  | succ n ih =>
    intro x3 x4 M hm
    rw [F_X8_weighOpened_b16]
    refine Fr.ite ?_ ?_
    · refine Fr.bind (fr_X2_fewest fu _ _) (by first | decide | simp [xwsub]) hm (fun q1 hm_q1 => ?_)
      refine Fr.bind (fr_X2_lay fu _ _ _) (by first | decide | simp [xwsub]) hm_q1 (fun q2 hm_q2 => ?_)
      refine Fr.ite ?_ ?_
      · exact fr_X8_weighOpened_b77 fu x1 x2 hk2 _ _ hm_q2
      · refine Fr.bind (fr_X8_lower fu _ _ _ _ _ _) (by first | decide | simp [xwsub]) hm_q2 (fun q3 hm_q3 => ?_)
        exact fr_X8_weighOpened_b77 fu x1 x2 hk2 _ _ hm_q3
    · refine Fr.bind (fr_X1_put _ _ _ _ _) (by first | decide | simp [xwsub]) hm (fun q4 hm_q4 => ?_)
      exact ih _ _ _ hm_q4
theorem fr_X8_weighOpened_b2 {M0 : xM} (fu : Nat)  (x1 : Int32) (x2 : Int32)  : ∀ (n : Nat) (x3 : Int32) (M : xM), xfr wr_X8_weighOpened M0 M → Fr wr_X8_weighOpened M0 id (F_X8_weighOpened_b2 fu x1 x2 n x3 M) := by
  intro n
  induction n with
  | zero =>
    intro x3 M hm
    exact Fr.none
  | succ n ih =>
    intro x3 M hm
    rw [F_X8_weighOpened_b2]
    refine Fr.ite ?_ ?_
    · exact Fr.somev hm
    · exact fr_X8_weighOpened_b16 fu x1 x2 ih fu _ _ _ hm
theorem fr_X8_weighOpened_b0 {M0 : xM} (fu : Nat)  (x1 : Int32) (x2 : Int32)   (M : xM) (hm : xfr wr_X8_weighOpened M0 M) : Fr wr_X8_weighOpened M0 id (F_X8_weighOpened fu x1 x2  M) := by
  unfold F_X8_weighOpened
  exact fr_X8_weighOpened_b2 fu x1 x2  fu _ _ hm
theorem fr_X8_weighOpened (fu : Nat)  (x1 : Int32) (x2 : Int32) (M : xM) : Fr wr_X8_weighOpened M id (F_X8_weighOpened fu x1 x2  M) := fr_X8_weighOpened_b0 fu x1 x2  M xfr.rf
abbrev wr_X8_lead : List (Nat × Option Nat) := []
theorem fr_X8_lead_b38 {M0 : xM} (fu : Nat)  (x1 : Int32) (x2 : Int32) (x3 : Int32) {k6 : Int32 → Int32 → xM → Option (Int32 × xM)} (hk6 : ∀ (b0 : Int32) (b1 : Int32) (M : xM), xfr wr_X8_lead M0 M → Fr wr_X8_lead M0 Prod.snd (k6 b0 b1 M)) (x4 : Int32) (x5 : Int32) (q0 : Nat) (M : xM) (hm : xfr wr_X8_lead M0 M) : Fr wr_X8_lead M0 Prod.snd (F_X8_lead_b38 fu x1 x2 x3 k6 x4 x5 q0 M) := by
  unfold F_X8_lead_b38
  exact hk6 _ _ _ hm
theorem fr_X8_lead_b6 {M0 : xM} (fu : Nat)  (x1 : Int32) (x2 : Int32) (x3 : Int32)  : ∀ (n : Nat) (x4 : Int32) (x5 : Int32) (M : xM), xfr wr_X8_lead M0 M → Fr wr_X8_lead M0 Prod.snd (F_X8_lead_b6 fu x1 x2 x3 n x4 x5 M) := by
  intro n
  induction n with
  | zero =>
    intro x4 x5 M hm
    exact Fr.none
  | succ n ih =>
    intro x4 x5 M hm
    rw [F_X8_lead_b6]
    refine Fr.ite ?_ ?_
    · exact Fr.some hm
    · refine Fr.ite ?_ ?_
      · exact fr_X8_lead_b38 fu x1 x2 x3 ih _ _ _ _ hm
      · exact fr_X8_lead_b38 fu x1 x2 x3 ih _ _ _ _ hm
theorem fr_X8_lead_b0 {M0 : xM} (fu : Nat)  (x1 : Int32) (x2 : Int32) (x3 : Int32)   (M : xM) (hm : xfr wr_X8_lead M0 M) : Fr wr_X8_lead M0 Prod.snd (F_X8_lead fu x1 x2 x3  M) := by
  unfold F_X8_lead
  exact fr_X8_lead_b6 fu x1 x2 x3  fu _ _ _ hm
theorem fr_X8_lead (fu : Nat)  (x1 : Int32) (x2 : Int32) (x3 : Int32) (M : xM) : Fr wr_X8_lead M Prod.snd (F_X8_lead fu x1 x2 x3  M) := fr_X8_lead_b0 fu x1 x2 x3  M xfr.rf
abbrev wr_X8_leastLead : List (Nat × Option Nat) := [(33, none), (34, none), (35, none), (36, none), (37, none), (38, none), (39, none), (6, some 8), (6, some 9)]
theorem fr_X8_leastLead_b0 {M0 : xM} (fu : Nat)  (x1 : Int32) (x2 : Int32)   (M : xM) (hm : xfr wr_X8_leastLead M0 M) : Fr wr_X8_leastLead M0 Prod.snd (F_X8_leastLead fu x1 x2  M) := by
  unfold F_X8_leastLead
  refine Fr.bind (fr_X0_officeOf fu _ _) (by first | decide | simp [xwsub]) hm (fun q1 hm_q1 => ?_)
  refine Fr.ite ?_ ?_
  · exact Fr.some hm_q1
  · refine Fr.ite ?_ ?_
    · exact Fr.some hm_q1
    · refine Fr.bind (fr_X0_officeOf fu _ _) (by first | decide | simp [xwsub]) hm_q1 (fun q2 hm_q2 => ?_)
      refine Fr.ite ?_ ?_
      · refine Fr.bind (fr_X8_weigh fu _ _ _) (by first | decide | simp [xwsub]) hm_q2 (fun q3 hm_q3 => ?_)
        refine Fr.ite ?_ ?_
        · exact Fr.some hm_q3
        · refine Fr.bind (fr_X8_lead fu _ _ _ _) (by first | decide | simp [xwsub]) hm_q3 (fun q4 hm_q4 => ?_)
          exact Fr.some hm_q4
      · exact Fr.some hm_q2
theorem fr_X8_leastLead (fu : Nat)  (x1 : Int32) (x2 : Int32) (M : xM) : Fr wr_X8_leastLead M Prod.snd (F_X8_leastLead fu x1 x2  M) := fr_X8_leastLead_b0 fu x1 x2  M xfr.rf
abbrev wr_X8_leadsAll : List (Nat × Option Nat) := []
theorem fr_X8_leadsAll_b63 {M0 : xM} (fu : Nat)  (x1 : Int32) (x2 : Int32) (x3 : Int32) {k3 : Int32 → xM → Option (Int32 × xM)} (hk3 : ∀ (b0 : Int32) (M : xM), xfr wr_X8_leadsAll M0 M → Fr wr_X8_leadsAll M0 Prod.snd (k3 b0 M)) (x4 : Int32) (M : xM) (hm : xfr wr_X8_leadsAll M0 M) : Fr wr_X8_leadsAll M0 Prod.snd (F_X8_leadsAll_b63 fu x1 x2 x3 k3 x4 M) := by
  unfold F_X8_leadsAll_b63
  exact hk3 _ _ hm
theorem fr_X8_leadsAll_b42 {M0 : xM} (fu : Nat)  (x1 : Int32) (x2 : Int32) (x3 : Int32) {k3 : Int32 → xM → Option (Int32 × xM)} (hk3 : ∀ (b0 : Int32) (M : xM), xfr wr_X8_leadsAll M0 M → Fr wr_X8_leadsAll M0 Prod.snd (k3 b0 M)) (x4 : Int32) (s0 : Int32) (M : xM) (hm : xfr wr_X8_leadsAll M0 M) : Fr wr_X8_leadsAll M0 Prod.snd (F_X8_leadsAll_b42 fu x1 x2 x3 k3 x4 s0 M) := by
  unfold F_X8_leadsAll_b42
  refine Fr.ite ?_ ?_
  · exact fr_X8_leadsAll_b63 fu x1 x2 x3 hk3 _ _ hm
  · refine Fr.bind (fr_X8_lead fu _ _ _ _) (by first | decide | simp [xwsub]) hm (fun q1 hm_q1 => ?_)
    refine Fr.ite ?_ ?_
    · exact fr_X8_leadsAll_b63 fu x1 x2 x3 hk3 _ _ hm_q1
    · exact Fr.some hm_q1
theorem fr_X8_leadsAll_b41 {M0 : xM} (fu : Nat)  (x1 : Int32) (x2 : Int32) (x3 : Int32) {k3 : Int32 → xM → Option (Int32 × xM)} (hk3 : ∀ (b0 : Int32) (M : xM), xfr wr_X8_leadsAll M0 M → Fr wr_X8_leadsAll M0 Prod.snd (k3 b0 M)) (x4 : Int32) (M : xM) (hm : xfr wr_X8_leadsAll M0 M) : Fr wr_X8_leadsAll M0 Prod.snd (F_X8_leadsAll_b41 fu x1 x2 x3 k3 x4 M) := by
  unfold F_X8_leadsAll_b41
  exact fr_X8_leadsAll_b42 fu x1 x2 x3 hk3 _ _ _ hm
theorem fr_X8_leadsAll_b3 {M0 : xM} (fu : Nat)  (x1 : Int32) (x2 : Int32) (x3 : Int32)  : ∀ (n : Nat) (x4 : Int32) (M : xM), xfr wr_X8_leadsAll M0 M → Fr wr_X8_leadsAll M0 Prod.snd (F_X8_leadsAll_b3 fu x1 x2 x3 n x4 M) := by
  intro n
  induction n with
  | zero =>
    intro x4 M hm
    exact Fr.none
  | succ n ih =>
    intro x4 M hm
    rw [F_X8_leadsAll_b3]
    refine Fr.ite ?_ ?_
    · exact Fr.some hm
    · refine Fr.ite ?_ ?_
      · exact fr_X8_leadsAll_b41 fu x1 x2 x3 ih _ _ hm
      · refine Fr.ite ?_ ?_
        · exact fr_X8_leadsAll_b41 fu x1 x2 x3 ih _ _ hm
        · exact fr_X8_leadsAll_b42 fu x1 x2 x3 ih _ _ _ hm
theorem fr_X8_leadsAll_b0 {M0 : xM} (fu : Nat)  (x1 : Int32) (x2 : Int32) (x3 : Int32)   (M : xM) (hm : xfr wr_X8_leadsAll M0 M) : Fr wr_X8_leadsAll M0 Prod.snd (F_X8_leadsAll fu x1 x2 x3  M) := by
  unfold F_X8_leadsAll
  exact fr_X8_leadsAll_b3 fu x1 x2 x3  fu _ _ hm
theorem fr_X8_leadsAll (fu : Nat)  (x1 : Int32) (x2 : Int32) (x3 : Int32) (M : xM) : Fr wr_X8_leadsAll M Prod.snd (F_X8_leadsAll fu x1 x2 x3  M) := fr_X8_leadsAll_b0 fu x1 x2 x3  M xfr.rf
abbrev wr_X8_winner : List (Nat × Option Nat) := [(33, none), (34, none), (35, none), (36, none), (37, none), (38, none), (39, none), (6, some 8), (6, some 9)]
theorem fr_X8_winner_b58 {M0 : xM} (fu : Nat)  (x1 : Int32) {k20 : Int32 → xM → Option (Int32 × xM)} (hk20 : ∀ (b0 : Int32) (M : xM), xfr wr_X8_winner M0 M → Fr wr_X8_winner M0 Prod.snd (k20 b0 M)) (x2 : Int32) (M : xM) (hm : xfr wr_X8_winner M0 M) : Fr wr_X8_winner M0 Prod.snd (F_X8_winner_b58 fu x1 k20 x2 M) := by
  unfold F_X8_winner_b58
  exact hk20 _ _ hm
theorem fr_X8_winner_b20 {M0 : xM} (fu : Nat)  (x1 : Int32)  : ∀ (n : Nat) (x2 : Int32) (M : xM), xfr wr_X8_winner M0 M → Fr wr_X8_winner M0 Prod.snd (F_X8_winner_b20 fu x1 n x2 M) := by
  intro n
  induction n with
  | zero =>
    intro x2 M hm
    exact Fr.none
  | succ n ih =>
    intro x2 M hm
    rw [F_X8_winner_b20]
    refine Fr.ite ?_ ?_
    · exact Fr.some hm
    · refine Fr.ite ?_ ?_
      · exact fr_X8_winner_b58 fu x1 ih _ _ hm
      · refine Fr.bind (fr_X8_leadsAll fu _ _ _ _) (by first | decide | simp [xwsub]) hm (fun q1 hm_q1 => ?_)
        refine Fr.ite ?_ ?_
        · exact fr_X8_winner_b58 fu x1 ih _ _ hm_q1
        · exact Fr.some hm_q1
theorem fr_X8_winner_b0 {M0 : xM} (fu : Nat)  (x1 : Int32)   (M : xM) (hm : xfr wr_X8_winner M0 M) : Fr wr_X8_winner M0 Prod.snd (F_X8_winner fu x1  M) := by
  unfold F_X8_winner
  refine Fr.bind (fr_X8_weigh fu _ _ _) (by first | decide | simp [xwsub]) hm (fun q1 hm_q1 => ?_)
  refine Fr.ite ?_ ?_
  · exact Fr.some hm_q1
  · exact fr_X8_winner_b20 fu x1  fu _ _ hm_q1
theorem fr_X8_winner (fu : Nat)  (x1 : Int32) (M : xM) : Fr wr_X8_winner M Prod.snd (F_X8_winner fu x1  M) := fr_X8_winner_b0 fu x1  M xfr.rf
abbrev wr_X8_canOpen : List (Nat × Option Nat) := []
theorem fr_X8_canOpen_b38 {M0 : xM} (fu : Nat)  (x1 : Int32) {k2 : Int32 → xM → Option (Int32 × xM)} (hk2 : ∀ (b0 : Int32) (M : xM), xfr wr_X8_canOpen M0 M → Fr wr_X8_canOpen M0 Prod.snd (k2 b0 M)) (x2 : Int32) (M : xM) (hm : xfr wr_X8_canOpen M0 M) : Fr wr_X8_canOpen M0 Prod.snd (F_X8_canOpen_b38 fu x1 k2 x2 M) := by
  unfold F_X8_canOpen_b38
  exact hk2 _ _ hm
theorem fr_X8_canOpen_b2 {M0 : xM} (fu : Nat)  (x1 : Int32)  : ∀ (n : Nat) (x2 : Int32) (M : xM), xfr wr_X8_canOpen M0 M → Fr wr_X8_canOpen M0 Prod.snd (F_X8_canOpen_b2 fu x1 n x2 M) := by
  intro n
  induction n with
  | zero =>
    intro x2 M hm
    exact Fr.none
  | succ n ih =>
    intro x2 M hm
    rw [F_X8_canOpen_b2]
    refine Fr.ite ?_ ?_
    · exact Fr.some hm
    · refine Fr.ite ?_ ?_
      · exact fr_X8_canOpen_b38 fu x1 ih _ _ hm
      · refine Fr.ite ?_ ?_
        · exact fr_X8_canOpen_b38 fu x1 ih _ _ hm
        · exact Fr.some hm
theorem fr_X8_canOpen_b0 {M0 : xM} (fu : Nat)  (x1 : Int32)   (M : xM) (hm : xfr wr_X8_canOpen M0 M) : Fr wr_X8_canOpen M0 Prod.snd (F_X8_canOpen fu x1  M) := by
  unfold F_X8_canOpen
  exact fr_X8_canOpen_b2 fu x1  fu _ _ hm
theorem fr_X8_canOpen (fu : Nat)  (x1 : Int32) (M : xM) : Fr wr_X8_canOpen M Prod.snd (F_X8_canOpen fu x1  M) := fr_X8_canOpen_b0 fu x1  M xfr.rf
abbrev wr_X8_costOf : List (Nat × Option Nat) := []
theorem fr_X8_costOf_b37 {M0 : xM} (fu : Nat)  (x1 : Int32) {k4 : Int32 → Int32 → xM → Option (Int32 × xM)} (hk4 : ∀ (b0 : Int32) (b1 : Int32) (M : xM), xfr wr_X8_costOf M0 M → Fr wr_X8_costOf M0 Prod.snd (k4 b0 b1 M)) (x2 : Int32) (x3 : Int32) (M : xM) (hm : xfr wr_X8_costOf M0 M) : Fr wr_X8_costOf M0 Prod.snd (F_X8_costOf_b37 fu x1 k4 x2 x3 M) := by
  unfold F_X8_costOf_b37
  exact hk4 _ _ _ hm
theorem fr_X8_costOf_b4 {M0 : xM} (fu : Nat)  (x1 : Int32)  : ∀ (n : Nat) (x2 : Int32) (x3 : Int32) (M : xM), xfr wr_X8_costOf M0 M → Fr wr_X8_costOf M0 Prod.snd (F_X8_costOf_b4 fu x1 n x2 x3 M) := by
  intro n
  induction n with
  | zero =>
    intro x2 x3 M hm
    exact Fr.none
  | succ n ih =>
    intro x2 x3 M hm
    rw [F_X8_costOf_b4]
    refine Fr.ite ?_ ?_
    · exact Fr.some hm
    · refine Fr.ite ?_ ?_
      · exact fr_X8_costOf_b37 fu x1 ih _ _ _ hm
      · exact fr_X8_costOf_b37 fu x1 ih _ _ _ hm
theorem fr_X8_costOf_b0 {M0 : xM} (fu : Nat)  (x1 : Int32)   (M : xM) (hm : xfr wr_X8_costOf M0 M) : Fr wr_X8_costOf M0 Prod.snd (F_X8_costOf fu x1  M) := by
  unfold F_X8_costOf
  exact fr_X8_costOf_b4 fu x1  fu _ _ _ hm
theorem fr_X8_costOf (fu : Nat)  (x1 : Int32) (M : xM) : Fr wr_X8_costOf M Prod.snd (F_X8_costOf fu x1  M) := fr_X8_costOf_b0 fu x1  M xfr.rf
abbrev wr_X8_isCheaper : List (Nat × Option Nat) := []
theorem fr_X8_isCheaper_b28 {M0 : xM} (fu : Nat)  (x1 : Int32) (x2 : Int32)   (M : xM) (hm : xfr wr_X8_isCheaper M0 M) : Fr wr_X8_isCheaper M0 Prod.snd (F_X8_isCheaper_b28 fu x1 x2  M) := by
  unfold F_X8_isCheaper_b28
  exact Fr.some hm
theorem fr_X8_isCheaper_b0 {M0 : xM} (fu : Nat)  (x1 : Int32) (x2 : Int32)   (M : xM) (hm : xfr wr_X8_isCheaper M0 M) : Fr wr_X8_isCheaper M0 Prod.snd (F_X8_isCheaper fu x1 x2  M) := by
  unfold F_X8_isCheaper
  refine Fr.bind (fr_X8_costOf fu _ _) (by first | decide | simp [xwsub]) hm (fun q1 hm_q1 => ?_)
  refine Fr.bind (fr_X8_costOf fu _ _) (by first | decide | simp [xwsub]) hm_q1 (fun q2 hm_q2 => ?_)
  refine Fr.ite ?_ ?_
  · exact fr_X8_isCheaper_b28 fu x1 x2   _ hm_q2
  · refine Fr.ite ?_ ?_
    · refine Fr.ite ?_ ?_
      · exact Fr.some hm_q2
      · exact fr_X8_isCheaper_b28 fu x1 x2   _ hm_q2
    · exact Fr.some hm_q2
theorem fr_X8_isCheaper (fu : Nat)  (x1 : Int32) (x2 : Int32) (M : xM) : Fr wr_X8_isCheaper M Prod.snd (F_X8_isCheaper fu x1 x2  M) := fr_X8_isCheaper_b0 fu x1 x2  M xfr.rf
abbrev wr_X8_cheapestOpening : List (Nat × Option Nat) := [(33, none), (34, none), (35, none), (36, none), (37, none), (38, none), (39, none), (40, none), (6, some 8), (6, some 9)]
theorem fr_X8_cheapestOpening_b90 {M0 : xM} (fu : Nat)  (x1 : Int32) {k37 : Int32 → Int32 → Int32 → xM → Option (Int32 × xM)} (hk37 : ∀ (b0 : Int32) (b1 : Int32) (b2 : Int32) (M : xM), xfr wr_X8_cheapestOpening M0 M → Fr wr_X8_cheapestOpening M0 Prod.snd (k37 b0 b1 b2 M)) (x2 : Int32) (x3 : Int32) (x4 : Int32) (M : xM) (hm : xfr wr_X8_cheapestOpening M0 M) : Fr wr_X8_cheapestOpening M0 Prod.snd (F_X8_cheapestOpening_b90 fu x1 k37 x2 x3 x4 M) := by
  unfold F_X8_cheapestOpening_b90
  exact hk37 _ _ _ _ hm
theorem fr_X8_cheapestOpening_b76 {M0 : xM} (fu : Nat)  (x1 : Int32) {k37 : Int32 → Int32 → Int32 → xM → Option (Int32 × xM)} (hk37 : ∀ (b0 : Int32) (b1 : Int32) (b2 : Int32) (M : xM), xfr wr_X8_cheapestOpening M0 M → Fr wr_X8_cheapestOpening M0 Prod.snd (k37 b0 b1 b2 M)) (x2 : Int32) (x3 : Int32) (x4 : Int32) (M : xM) (hm : xfr wr_X8_cheapestOpening M0 M) : Fr wr_X8_cheapestOpening M0 Prod.snd (F_X8_cheapestOpening_b76 fu x1 k37 x2 x3 x4 M) := by
  unfold F_X8_cheapestOpening_b76
  refine Fr.bind (fr_X8_leadsAll fu _ _ _ _) (by first | decide | simp [xwsub]) hm (fun q1 hm_q1 => ?_)
  refine Fr.ite ?_ ?_
  · exact fr_X8_cheapestOpening_b90 fu x1 hk37 _ _ _ _ hm_q1
  · exact fr_X8_cheapestOpening_b90 fu x1 hk37 _ _ _ _ hm_q1
theorem fr_X8_cheapestOpening_b37 {M0 : xM} (fu : Nat)  (x1 : Int32)  : ∀ (n : Nat) (x2 : Int32) (x3 : Int32) (x4 : Int32) (M : xM), xfr wr_X8_cheapestOpening M0 M → Fr wr_X8_cheapestOpening M0 Prod.snd (F_X8_cheapestOpening_b37 fu x1 n x2 x3 x4 M) := by
  intro n
  induction n with
  | zero =>
    intro x2 x3 x4 M hm
    exact Fr.none
  | succ n ih =>
    intro x2 x3 x4 M hm
    rw [F_X8_cheapestOpening_b37]
    refine Fr.ite ?_ ?_
    · exact Fr.some hm
    · refine Fr.bind (fr_X8_canOpen fu _ _) (by first | decide | simp [xwsub]) hm (fun q1 hm_q1 => ?_)
      refine Fr.ite ?_ ?_
      · exact fr_X8_cheapestOpening_b90 fu x1 ih _ _ _ _ hm_q1
      · refine Fr.ite ?_ ?_
        · exact fr_X8_cheapestOpening_b76 fu x1 ih _ _ _ _ hm_q1
        · refine Fr.bind (fr_X8_isCheaper fu _ _ _) (by first | decide | simp [xwsub]) hm_q1 (fun q2 hm_q2 => ?_)
          refine Fr.ite ?_ ?_
          · exact fr_X8_cheapestOpening_b90 fu x1 ih _ _ _ _ hm_q2
          · exact fr_X8_cheapestOpening_b76 fu x1 ih _ _ _ _ hm_q2
theorem fr_X8_cheapestOpening_b0 {M0 : xM} (fu : Nat)  (x1 : Int32)   (M : xM) (hm : xfr wr_X8_cheapestOpening M0 M) : Fr wr_X8_cheapestOpening M0 Prod.snd (F_X8_cheapestOpening fu x1  M) := by
  unfold F_X8_cheapestOpening
  refine Fr.bind (fr_X0_officeOf fu _ _) (by first | decide | simp [xwsub]) hm (fun q1 hm_q1 => ?_)
  refine Fr.bind (fr_X8_weigh fu _ _ _) (by first | decide | simp [xwsub]) hm_q1 (fun q2 hm_q2 => ?_)
  refine Fr.ite ?_ ?_
  · exact Fr.some hm_q2
  · refine Fr.bind (fr_X8_weighOpened fu _ _ _) (by first | decide | simp [xwsub]) hm_q2 (fun q3 hm_q3 => ?_)
    exact fr_X8_cheapestOpening_b37 fu x1  fu _ _ _ _ hm_q3
theorem fr_X8_cheapestOpening (fu : Nat)  (x1 : Int32) (M : xM) : Fr wr_X8_cheapestOpening M Prod.snd (F_X8_cheapestOpening fu x1  M) := fr_X8_cheapestOpening_b0 fu x1  M xfr.rf
abbrev wr_X8_setAbsent : List (Nat × Option Nat) := [(41, none), (42, none)]
theorem fr_X8_setAbsent_b27 {M0 : xM}  (x1 : Int32) (x2 : Int32) (x3 : Int32)  (s0 : Int32) (M : xM) (hm : xfr wr_X8_setAbsent M0 M) : Fr wr_X8_setAbsent M0 Prod.snd (F_X8_setAbsent_b27 x1 x2 x3 s0 M) := by
  unfold F_X8_setAbsent_b27
  refine Fr.ite ?_ ?_
  · exact Fr.some hm
  · refine Fr.ite ?_ ?_
    · exact Fr.some hm
    · refine Fr.bind (fr_X1_put _ _ _ _ _) (by first | decide | simp [xwsub]) hm (fun q1 hm_q1 => ?_)
      refine Fr.bind (fr_X1_put _ _ _ _ _) (by first | decide | simp [xwsub]) hm_q1 (fun q2 hm_q2 => ?_)
      exact Fr.some hm_q2
theorem fr_X8_setAbsent_b26 {M0 : xM}  (x1 : Int32) (x2 : Int32) (x3 : Int32)   (M : xM) (hm : xfr wr_X8_setAbsent M0 M) : Fr wr_X8_setAbsent M0 Prod.snd (F_X8_setAbsent_b26 x1 x2 x3  M) := by
  unfold F_X8_setAbsent_b26
  exact fr_X8_setAbsent_b27 x1 x2 x3  _ _ hm
theorem fr_X8_setAbsent_b0 {M0 : xM}  (x1 : Int32) (x2 : Int32) (x3 : Int32)   (M : xM) (hm : xfr wr_X8_setAbsent M0 M) : Fr wr_X8_setAbsent M0 Prod.snd (F_X8_setAbsent x1 x2 x3  M) := by
  unfold F_X8_setAbsent
  refine Fr.ite ?_ ?_
  · exact fr_X8_setAbsent_b26 x1 x2 x3   _ hm
  · refine Fr.ite ?_ ?_
    · exact fr_X8_setAbsent_b26 x1 x2 x3   _ hm
    · exact fr_X8_setAbsent_b27 x1 x2 x3  _ _ hm
theorem fr_X8_setAbsent  (x1 : Int32) (x2 : Int32) (x3 : Int32) (M : xM) : Fr wr_X8_setAbsent M Prod.snd (F_X8_setAbsent  x1 x2 x3  M) := fr_X8_setAbsent_b0 x1 x2 x3  M xfr.rf
abbrev wr_X10_add : List (Nat × Option Nat) := [(43, none), (44, none), (8, some 2)]
theorem fr_X10_add_b0 {M0 : xM}  (x1 : Int32) (x2 : Int32)   (M : xM) (hm : xfr wr_X10_add M0 M) : Fr wr_X10_add M0 Prod.snd (F_X10_add x1 x2  M) := by
  unfold F_X10_add
  refine Fr.ite ?_ ?_
  · exact Fr.some hm
  · refine Fr.ite ?_ ?_
    · exact Fr.some hm
    · refine Fr.ite ?_ ?_
      · refine Fr.bind (fr_X1_put _ _ _ _ _) (by first | decide | simp [xwsub]) hm (fun q1 hm_q1 => ?_)
        refine Fr.bind (fr_X1_put _ _ _ _ _) (by first | decide | simp [xwsub]) hm_q1 (fun q2 hm_q2 => ?_)
        exact Fr.some (hm_q2.setf (by first | decide | simp [xin]))
      · exact Fr.some hm
theorem fr_X10_add  (x1 : Int32) (x2 : Int32) (M : xM) : Fr wr_X10_add M Prod.snd (F_X10_add  x1 x2  M) := fr_X10_add_b0 x1 x2  M xfr.rf
abbrev wr_X10_pulls : List (Nat × Option Nat) := []
theorem fr_X10_pulls_b37 {M0 : xM} (fu : Nat)  (x1 : Int32) (x2 : Int32) (x3 : Int32)  (s0 : Int32) (M : xM) (hm : xfr wr_X10_pulls M0 M) : Fr wr_X10_pulls M0 Prod.snd (F_X10_pulls_b37 fu x1 x2 x3 s0 M) := by
  unfold F_X10_pulls_b37
  refine Fr.ite ?_ ?_
  · exact Fr.some hm
  · exact Fr.some hm
theorem fr_X10_pulls_b36 {M0 : xM} (fu : Nat)  (x1 : Int32) (x2 : Int32) (x3 : Int32)   (M : xM) (hm : xfr wr_X10_pulls M0 M) : Fr wr_X10_pulls M0 Prod.snd (F_X10_pulls_b36 fu x1 x2 x3  M) := by
  unfold F_X10_pulls_b36
  exact fr_X10_pulls_b37 fu x1 x2 x3  _ _ hm
theorem fr_X10_pulls_b0 {M0 : xM} (fu : Nat)  (x1 : Int32) (x2 : Int32) (x3 : Int32)   (M : xM) (hm : xfr wr_X10_pulls M0 M) : Fr wr_X10_pulls M0 Prod.snd (F_X10_pulls fu x1 x2 x3  M) := by
  unfold F_X10_pulls
  refine Fr.ite ?_ ?_
  · exact fr_X10_pulls_b36 fu x1 x2 x3   _ hm
  · refine Fr.bind (fr_X0_strapsAgainst fu _ _ _) (by first | decide | simp [xwsub]) hm (fun q1 hm_q1 => ?_)
    refine Fr.ite ?_ ?_
    · exact fr_X10_pulls_b37 fu x1 x2 x3  _ _ hm_q1
    · exact fr_X10_pulls_b36 fu x1 x2 x3   _ hm_q1
theorem fr_X10_pulls (fu : Nat)  (x1 : Int32) (x2 : Int32) (x3 : Int32) (M : xM) : Fr wr_X10_pulls M Prod.snd (F_X10_pulls fu x1 x2 x3  M) := fr_X10_pulls_b0 fu x1 x2 x3  M xfr.rf
abbrev wr_X10_shows : List (Nat × Option Nat) := []
theorem fr_X10_shows_b78 {M0 : xM} (fu : Nat)  (x1 : Int32) (x2 : Int32) (x3 : Int32) (x4 : Int32)  (x5 : Int32) (x6 : Int32) (x7 : Int32) (M : xM) (hm : xfr wr_X10_shows M0 M) : Fr wr_X10_shows M0 Prod.snd (F_X10_shows_b78 fu x1 x2 x3 x4 x5 x6 x7 M) := by
  unfold F_X10_shows_b78
  refine Fr.bind (fr_X10_pulls fu _ _ _ _) (by first | decide | simp [xwsub]) hm (fun q1 hm_q1 => ?_)
  refine Fr.ite ?_ ?_
  · refine Fr.ite ?_ ?_
    · exact Fr.some hm_q1
    · refine Fr.ite ?_ ?_
      · refine Fr.bind (fr_X10_pulls fu _ _ _ _) (by first | decide | simp [xwsub]) hm_q1 (fun q2 hm_q2 => ?_)
        exact Fr.some hm_q2
      · refine Fr.ite ?_ ?_
        · exact Fr.some hm_q1
        · exact Fr.some hm_q1
  · exact Fr.some hm_q1
theorem fr_X10_shows_b0 {M0 : xM} (fu : Nat)  (x1 : Int32) (x2 : Int32) (x3 : Int32) (x4 : Int32)   (M : xM) (hm : xfr wr_X10_shows M0 M) : Fr wr_X10_shows M0 Prod.snd (F_X10_shows fu x1 x2 x3 x4  M) := by
  unfold F_X10_shows
  refine Fr.ite ?_ ?_
  · refine Fr.bind (fr_X10_pulls fu _ _ _ _) (by first | decide | simp [xwsub]) hm (fun q2 hm_q2 => ?_)
    exact Fr.some hm_q2
  · refine Fr.ite ?_ ?_
    · refine Fr.ite ?_ ?_
      · refine Fr.bind (fr_X10_pulls fu _ _ _ _) (by first | decide | simp [xwsub]) hm (fun q1 hm_q1 => ?_)
        exact Fr.some hm_q1
      · exact fr_X10_shows_b78 fu x1 x2 x3 x4  _ _ _ _ hm
    · exact fr_X10_shows_b78 fu x1 x2 x3 x4  _ _ _ _ hm
theorem fr_X10_shows (fu : Nat)  (x1 : Int32) (x2 : Int32) (x3 : Int32) (x4 : Int32) (M : xM) : Fr wr_X10_shows M Prod.snd (F_X10_shows fu x1 x2 x3 x4  M) := fr_X10_shows_b0 fu x1 x2 x3 x4  M xfr.rf
abbrev wr_X10_seesFault : List (Nat × Option Nat) := []
theorem fr_X10_seesFault_b49 {M0 : xM} (fu : Nat)  (x1 : Int32) (x2 : Int32) (x3 : Int32) {k3 : Int32 → xM → Option (Int32 × xM)} (hk3 : ∀ (b0 : Int32) (M : xM), xfr wr_X10_seesFault M0 M → Fr wr_X10_seesFault M0 Prod.snd (k3 b0 M)) (x4 : Int32) (M : xM) (hm : xfr wr_X10_seesFault M0 M) : Fr wr_X10_seesFault M0 Prod.snd (F_X10_seesFault_b49 fu x1 x2 x3 k3 x4 M) := by
  unfold F_X10_seesFault_b49
  exact hk3 _ _ hm
theorem fr_X10_seesFault_b3 {M0 : xM} (fu : Nat)  (x1 : Int32) (x2 : Int32) (x3 : Int32)  : ∀ (n : Nat) (x4 : Int32) (M : xM), xfr wr_X10_seesFault M0 M → Fr wr_X10_seesFault M0 Prod.snd (F_X10_seesFault_b3 fu x1 x2 x3 n x4 M) := by
  intro n
  induction n with
  | zero =>
    intro x4 M hm
    exact Fr.none
  | succ n ih =>
    intro x4 M hm
    rw [F_X10_seesFault_b3]
    refine Fr.ite ?_ ?_
    · exact Fr.some hm
    · refine Fr.ite ?_ ?_
      · exact fr_X10_seesFault_b49 fu x1 x2 x3 ih _ _ hm
      · refine Fr.bind (fr_X10_shows fu _ _ _ _ _) (by first | decide | simp [xwsub]) hm (fun q1 hm_q1 => ?_)
        refine Fr.bind (fr_X10_pulls fu _ _ _ _) (by first | decide | simp [xwsub]) hm_q1 (fun q2 hm_q2 => ?_)
        refine Fr.ite ?_ ?_
        · exact fr_X10_seesFault_b49 fu x1 x2 x3 ih _ _ hm_q2
        · exact Fr.some hm_q2
theorem fr_X10_seesFault_b0 {M0 : xM} (fu : Nat)  (x1 : Int32) (x2 : Int32) (x3 : Int32)   (M : xM) (hm : xfr wr_X10_seesFault M0 M) : Fr wr_X10_seesFault M0 Prod.snd (F_X10_seesFault fu x1 x2 x3  M) := by
  unfold F_X10_seesFault
  exact fr_X10_seesFault_b3 fu x1 x2 x3  fu _ _ hm
theorem fr_X10_seesFault (fu : Nat)  (x1 : Int32) (x2 : Int32) (x3 : Int32) (M : xM) : Fr wr_X10_seesFault M Prod.snd (F_X10_seesFault fu x1 x2 x3  M) := fr_X10_seesFault_b0 fu x1 x2 x3  M xfr.rf
abbrev wr_X10_seenBy : List (Nat × Option Nat) := []
theorem fr_X10_seenBy_b37 {M0 : xM} (fu : Nat)  (x1 : Int32) (x2 : Int32) {k5 : Int32 → Int32 → xM → Option (Int32 × xM)} (hk5 : ∀ (b0 : Int32) (b1 : Int32) (M : xM), xfr wr_X10_seenBy M0 M → Fr wr_X10_seenBy M0 Prod.snd (k5 b0 b1 M)) (x3 : Int32) (x4 : Int32) (M : xM) (hm : xfr wr_X10_seenBy M0 M) : Fr wr_X10_seenBy M0 Prod.snd (F_X10_seenBy_b37 fu x1 x2 k5 x3 x4 M) := by
  unfold F_X10_seenBy_b37
  exact hk5 _ _ _ hm
theorem fr_X10_seenBy_b5 {M0 : xM} (fu : Nat)  (x1 : Int32) (x2 : Int32)  : ∀ (n : Nat) (x3 : Int32) (x4 : Int32) (M : xM), xfr wr_X10_seenBy M0 M → Fr wr_X10_seenBy M0 Prod.snd (F_X10_seenBy_b5 fu x1 x2 n x3 x4 M) := by
  intro n
  induction n with
  | zero =>
    intro x3 x4 M hm
    exact Fr.none
  | succ n ih =>
    intro x3 x4 M hm
    rw [F_X10_seenBy_b5]
    refine Fr.ite ?_ ?_
    · exact Fr.some hm
    · refine Fr.bind (fr_X10_seesFault fu _ _ _ _) (by first | decide | simp [xwsub]) hm (fun q1 hm_q1 => ?_)
      refine Fr.ite ?_ ?_
      · exact fr_X10_seenBy_b37 fu x1 x2 ih _ _ _ hm_q1
      · exact fr_X10_seenBy_b37 fu x1 x2 ih _ _ _ hm_q1
theorem fr_X10_seenBy_b0 {M0 : xM} (fu : Nat)  (x1 : Int32) (x2 : Int32)   (M : xM) (hm : xfr wr_X10_seenBy M0 M) : Fr wr_X10_seenBy M0 Prod.snd (F_X10_seenBy fu x1 x2  M) := by
  unfold F_X10_seenBy
  exact fr_X10_seenBy_b5 fu x1 x2  fu _ _ _ hm
theorem fr_X10_seenBy (fu : Nat)  (x1 : Int32) (x2 : Int32) (M : xM) : Fr wr_X10_seenBy M Prod.snd (F_X10_seenBy fu x1 x2  M) := fr_X10_seenBy_b0 fu x1 x2  M xfr.rf
abbrev wr_X10_seenByAnyOf : List (Nat × Option Nat) := []
theorem fr_X10_seenByAnyOf_b31 {M0 : xM} (fu : Nat)  (x1 : Int32) {k4 : Int32 → Int32 → xM → Option (Int32 × xM)} (hk4 : ∀ (b0 : Int32) (b1 : Int32) (M : xM), xfr wr_X10_seenByAnyOf M0 M → Fr wr_X10_seenByAnyOf M0 Prod.snd (k4 b0 b1 M)) (x2 : Int32) (x3 : Int32) (M : xM) (hm : xfr wr_X10_seenByAnyOf M0 M) : Fr wr_X10_seenByAnyOf M0 Prod.snd (F_X10_seenByAnyOf_b31 fu x1 k4 x2 x3 M) := by
  unfold F_X10_seenByAnyOf_b31
  exact hk4 _ _ _ hm
theorem fr_X10_seenByAnyOf_b4 {M0 : xM} (fu : Nat)  (x1 : Int32)  : ∀ (n : Nat) (x2 : Int32) (x3 : Int32) (M : xM), xfr wr_X10_seenByAnyOf M0 M → Fr wr_X10_seenByAnyOf M0 Prod.snd (F_X10_seenByAnyOf_b4 fu x1 n x2 x3 M) := by
  intro n
  induction n with
  | zero =>
    intro x2 x3 M hm
    exact Fr.none
  | succ n ih =>
    intro x2 x3 M hm
    rw [F_X10_seenByAnyOf_b4]
    refine Fr.ite ?_ ?_
    · exact Fr.some hm
    · refine Fr.ite ?_ ?_
      · exact fr_X10_seenByAnyOf_b31 fu x1 ih _ _ _ hm
      · exact fr_X10_seenByAnyOf_b31 fu x1 ih _ _ _ hm
theorem fr_X10_seenByAnyOf_b0 {M0 : xM} (fu : Nat)  (x1 : Int32)   (M : xM) (hm : xfr wr_X10_seenByAnyOf M0 M) : Fr wr_X10_seenByAnyOf M0 Prod.snd (F_X10_seenByAnyOf fu x1  M) := by
  unfold F_X10_seenByAnyOf
  exact fr_X10_seenByAnyOf_b4 fu x1  fu _ _ _ hm
theorem fr_X10_seenByAnyOf (fu : Nat)  (x1 : Int32) (M : xM) : Fr wr_X10_seenByAnyOf M Prod.snd (F_X10_seenByAnyOf fu x1  M) := fr_X10_seenByAnyOf_b0 fu x1  M xfr.rf
abbrev wr_X10_fewestSeeingAll : List (Nat × Option Nat) := [(45, none)]
theorem fr_X10_fewestSeeingAll_b88 {M0 : xM} (fu : Nat)  (x1 : Int32) {k54 : Int32 → Int32 → Int32 → xM → Option (Int32 × xM)} (hk54 : ∀ (b0 : Int32) (b1 : Int32) (b2 : Int32) (M : xM), xfr wr_X10_fewestSeeingAll M0 M → Fr wr_X10_fewestSeeingAll M0 Prod.snd (k54 b0 b1 b2 M)) (x2 : Int32) (x3 : Int32) (x4 : Int32) (M : xM) (hm : xfr wr_X10_fewestSeeingAll M0 M) : Fr wr_X10_fewestSeeingAll M0 Prod.snd (F_X10_fewestSeeingAll_b88 fu x1 k54 x2 x3 x4 M) := by
  unfold F_X10_fewestSeeingAll_b88
  exact hk54 _ _ _ _ hm
theorem fr_X10_fewestSeeingAll_b54 {M0 : xM} (fu : Nat)  (x1 : Int32)  : ∀ (n : Nat) (x2 : Int32) (x3 : Int32) (x4 : Int32) (M : xM), xfr wr_X10_fewestSeeingAll M0 M → Fr wr_X10_fewestSeeingAll M0 Prod.snd (F_X10_fewestSeeingAll_b54 fu x1 n x2 x3 x4 M) := by
  intro n
  induction n with
  | zero =>
    intro x2 x3 x4 M hm
    exact Fr.none
  | succ n ih =>
    intro x2 x3 x4 M hm
    rw [F_X10_fewestSeeingAll_b54]
    refine Fr.ite ?_ ?_
    · exact Fr.some hm
    · refine Fr.ite ?_ ?_
      · exact fr_X10_fewestSeeingAll_b88 fu x1 ih _ _ _ _ hm
      · refine Fr.bind (fr_X10_seenByAnyOf fu _ _) (by first | decide | simp [xwsub]) hm (fun q1 hm_q1 => ?_)
        refine Fr.ite ?_ ?_
        · exact fr_X10_fewestSeeingAll_b88 fu x1 ih _ _ _ _ hm_q1
        · exact fr_X10_fewestSeeingAll_b88 fu x1 ih _ _ _ _ hm_q1
theorem fr_X10_fewestSeeingAll_b4 {M0 : xM} (fu : Nat)  (x1 : Int32)  : ∀ (n : Nat) (x2 : Int32) (x3 : Int32) (M : xM), xfr wr_X10_fewestSeeingAll M0 M → Fr wr_X10_fewestSeeingAll M0 Prod.snd (F_X10_fewestSeeingAll_b4 fu x1 n x2 x3 M) := by
  intro n
  induction n with
  | zero =>
    intro x2 x3 M hm
    exact Fr.none
  | succ n ih =>
    intro x2 x3 M hm
    rw [F_X10_fewestSeeingAll_b4]
    refine Fr.ite ?_ ?_
    · exact fr_X10_fewestSeeingAll_b54 fu x1  fu _ _ _ _ hm
    · refine Fr.bind (fr_X10_seenBy fu _ _ _) (by first | decide | simp [xwsub]) hm (fun q1 hm_q1 => ?_)
      refine Fr.bind (fr_X1_put _ _ _ _ _) (by first | decide | simp [xwsub]) hm_q1 (fun q2 hm_q2 => ?_)
      exact ih _ _ _ hm_q2
theorem fr_X10_fewestSeeingAll_b0 {M0 : xM} (fu : Nat)  (x1 : Int32)   (M : xM) (hm : xfr wr_X10_fewestSeeingAll M0 M) : Fr wr_X10_fewestSeeingAll M0 Prod.snd (F_X10_fewestSeeingAll fu x1  M) := by
  unfold F_X10_fewestSeeingAll
  exact fr_X10_fewestSeeingAll_b4 fu x1  fu _ _ _ hm
theorem fr_X10_fewestSeeingAll (fu : Nat)  (x1 : Int32) (M : xM) : Fr wr_X10_fewestSeeingAll M Prod.snd (F_X10_fewestSeeingAll fu x1  M) := fr_X10_fewestSeeingAll_b0 fu x1  M xfr.rf
abbrev wr_X6_isSame : List (Nat × Option Nat) := []
theorem fr_X6_isSame_b3 {M0 : xM} (fu : Nat)  (r0 n0 : Nat) (x1 : Int32) (r2 n2 : Nat) (x3 : Int32) (x4 : Int32)  : ∀ (n : Nat) (x5 : Int32) (M : xM), xfr wr_X6_isSame M0 M → Fr wr_X6_isSame M0 Prod.snd (F_X6_isSame_b3 fu r0 n0 x1 r2 n2 x3 x4 n x5 M) := by
  intro n
  induction n with
  | zero =>
    intro x5 M hm
    exact Fr.none
  | succ n ih =>
    intro x5 M hm
    rw [F_X6_isSame_b3]
    refine Fr.ite ?_ ?_
    · exact Fr.some hm
    · refine Fr.ite ?_ ?_
      · exact ih _ _ hm
      · exact Fr.some hm
theorem fr_X6_isSame_b0 {M0 : xM} (fu : Nat)  (r0 n0 : Nat) (x1 : Int32) (r2 n2 : Nat) (x3 : Int32) (x4 : Int32)   (M : xM) (hm : xfr wr_X6_isSame M0 M) : Fr wr_X6_isSame M0 Prod.snd (F_X6_isSame fu r0 n0 x1 r2 n2 x3 x4  M) := by
  unfold F_X6_isSame
  exact fr_X6_isSame_b3 fu r0 n0 x1 r2 n2 x3 x4  fu _ _ hm
theorem fr_X6_isSame (fu : Nat)  (r0 n0 : Nat) (x1 : Int32) (r2 n2 : Nat) (x3 : Int32) (x4 : Int32) (M : xM) : Fr wr_X6_isSame M Prod.snd (F_X6_isSame fu r0 n0 x1 r2 n2 x3 x4  M) := fr_X6_isSame_b0 fu r0 n0 x1 r2 n2 x3 x4  M xfr.rf
abbrev wr_X6_measure : List (Nat × Option Nat) := [(50, none), (51, none)]
theorem fr_X6_measure_b145 {M0 : xM} (fu : Nat)  (x1 : Int32) (x2 : Int32) {k38 : Int32 → Int32 → xM → Option (xM)} (hk38 : ∀ (b0 : Int32) (b1 : Int32) (M : xM), xfr wr_X6_measure M0 M → Fr wr_X6_measure M0 id (k38 b0 b1 M)) {k92 : Int32 → Int32 → Int32 → Int32 → Int32 → xM → Option (xM)} (hk92 : ∀ (b0 : Int32) (b1 : Int32) (b2 : Int32) (b3 : Int32) (b4 : Int32) (M : xM), xfr wr_X6_measure M0 M → Fr wr_X6_measure M0 id (k92 b0 b1 b2 b3 b4 M)) (x3 : Int32) (x4 : Int32) (x5 : Int32) (x7 : Int32) (s0 : Int32) (s1 : Int32) (M : xM) (hm : xfr wr_X6_measure M0 M) : Fr wr_X6_measure M0 id (F_X6_measure_b145 fu x1 x2 k38 k92 x3 x4 x5 x7 s0 s1 M) := by
  unfold F_X6_measure_b145
  refine Fr.bind (fr_X1_put _ _ _ _ _) (by first | decide | simp [xwsub]) hm (fun q1 hm_q1 => ?_)
  exact hk92 _ _ _ _ _ _ hm_q1
theorem fr_X6_measure_b131 {M0 : xM} (fu : Nat)  (x1 : Int32) (x2 : Int32) {k38 : Int32 → Int32 → xM → Option (xM)} (hk38 : ∀ (b0 : Int32) (b1 : Int32) (M : xM), xfr wr_X6_measure M0 M → Fr wr_X6_measure M0 id (k38 b0 b1 M)) {k92 : Int32 → Int32 → Int32 → Int32 → Int32 → xM → Option (xM)} (hk92 : ∀ (b0 : Int32) (b1 : Int32) (b2 : Int32) (b3 : Int32) (b4 : Int32) (M : xM), xfr wr_X6_measure M0 M → Fr wr_X6_measure M0 id (k92 b0 b1 b2 b3 b4 M)) (x3 : Int32) (x4 : Int32) (x5 : Int32) (x6 : Int32) (x7 : Int32) (s0 : Int32) (M : xM) (hm : xfr wr_X6_measure M0 M) : Fr wr_X6_measure M0 id (F_X6_measure_b131 fu x1 x2 k38 k92 x3 x4 x5 x6 x7 s0 M) := by
  unfold F_X6_measure_b131
  refine Fr.ite ?_ ?_
  · exact fr_X6_measure_b145 fu x1 x2 hk38 hk92 _ _ _ _ _ _ _ hm
  · exact fr_X6_measure_b145 fu x1 x2 hk38 hk92 _ _ _ _ _ _ _ hm
theorem fr_X6_measure_b126 {M0 : xM} (fu : Nat)  (x1 : Int32) (x2 : Int32) {k38 : Int32 → Int32 → xM → Option (xM)} (hk38 : ∀ (b0 : Int32) (b1 : Int32) (M : xM), xfr wr_X6_measure M0 M → Fr wr_X6_measure M0 id (k38 b0 b1 M)) {k92 : Int32 → Int32 → Int32 → Int32 → Int32 → xM → Option (xM)} (hk92 : ∀ (b0 : Int32) (b1 : Int32) (b2 : Int32) (b3 : Int32) (b4 : Int32) (M : xM), xfr wr_X6_measure M0 M → Fr wr_X6_measure M0 id (k92 b0 b1 b2 b3 b4 M)) (x3 : Int32) (x4 : Int32) (x5 : Int32) (x6 : Int32) (x7 : Int32) (M : xM) (hm : xfr wr_X6_measure M0 M) : Fr wr_X6_measure M0 id (F_X6_measure_b126 fu x1 x2 k38 k92 x3 x4 x5 x6 x7 M) := by
  unfold F_X6_measure_b126
  exact fr_X6_measure_b131 fu x1 x2 hk38 hk92 _ _ _ _ _ _ _ hm
theorem fr_X6_measure_b92 {M0 : xM} (fu : Nat)  (x1 : Int32) (x2 : Int32) {k38 : Int32 → Int32 → xM → Option (xM)} (hk38 : ∀ (b0 : Int32) (b1 : Int32) (M : xM), xfr wr_X6_measure M0 M → Fr wr_X6_measure M0 id (k38 b0 b1 M)) : ∀ (n : Nat) (x3 : Int32) (x4 : Int32) (x5 : Int32) (x6 : Int32) (x7 : Int32) (M : xM), xfr wr_X6_measure M0 M → Fr wr_X6_measure M0 id (F_X6_measure_b92 fu x1 x2 k38 n x3 x4 x5 x6 x7 M) := by
  intro n
  induction n with
  | zero =>
    intro x3 x4 x5 x6 x7 M hm
    exact Fr.none
  | succ n ih =>
    intro x3 x4 x5 x6 x7 M hm
    rw [F_X6_measure_b92]
    refine Fr.ite ?_ ?_
    · exact hk38 _ _ _ hm
    · refine Fr.ite ?_ ?_
      · exact fr_X6_measure_b126 fu x1 x2 hk38 ih _ _ _ _ _ _ hm
      · refine Fr.ite ?_ ?_
        · exact fr_X6_measure_b126 fu x1 x2 hk38 ih _ _ _ _ _ _ hm
        · exact fr_X6_measure_b131 fu x1 x2 hk38 ih _ _ _ _ _ _ _ hm
theorem fr_X6_measure_b38 {M0 : xM} (fu : Nat)  (x1 : Int32) (x2 : Int32)  : ∀ (n : Nat) (x3 : Int32) (x4 : Int32) (M : xM), xfr wr_X6_measure M0 M → Fr wr_X6_measure M0 id (F_X6_measure_b38 fu x1 x2 n x3 x4 M) := by
  intro n
  induction n with
  | zero =>
    intro x3 x4 M hm
    exact Fr.none
  | succ n ih =>
    intro x3 x4 M hm
    rw [F_X6_measure_b38]
    refine Fr.ite ?_ ?_
    · refine Fr.bind (fr_X1_put _ _ _ _ _) (by first | decide | simp [xwsub]) hm (fun q1 hm_q1 => ?_)
      exact Fr.somev hm_q1
    · refine Fr.bind (fr_X1_put _ _ _ _ _) (by first | decide | simp [xwsub]) hm (fun q2 hm_q2 => ?_)
      exact fr_X6_measure_b92 fu x1 x2 ih fu _ _ _ _ _ _ hm_q2
theorem fr_X6_measure_b12 {M0 : xM} (fu : Nat)  (x1 : Int32) (x2 : Int32)  : ∀ (n : Nat) (x3 : Int32) (x4 : Int32) (M : xM), xfr wr_X6_measure M0 M → Fr wr_X6_measure M0 id (F_X6_measure_b12 fu x1 x2 n x3 x4 M) := by
  intro n
  induction n with
  | zero =>
    intro x3 x4 M hm
    exact Fr.none
  | succ n ih =>
    intro x3 x4 M hm
    rw [F_X6_measure_b12]
    refine Fr.ite ?_ ?_
    · exact fr_X6_measure_b38 fu x1 x2  fu _ _ _ hm
    · refine Fr.bind (fr_X1_put _ _ _ _ _) (by first | decide | simp [xwsub]) hm (fun q1 hm_q1 => ?_)
      exact ih _ _ _ hm_q1
theorem fr_X6_measure_b0 {M0 : xM} (fu : Nat)  (x1 : Int32) (x2 : Int32)   (M : xM) (hm : xfr wr_X6_measure M0 M) : Fr wr_X6_measure M0 id (F_X6_measure fu x1 x2  M) := by
  unfold F_X6_measure
  exact fr_X6_measure_b12 fu x1 x2  fu _ _ _ hm
theorem fr_X6_measure (fu : Nat)  (x1 : Int32) (x2 : Int32) (M : xM) : Fr wr_X6_measure M id (F_X6_measure fu x1 x2  M) := fr_X6_measure_b0 fu x1 x2  M xfr.rf
abbrev wr_X6_addName : List (Nat × Option Nat) := [(2, some 1), (46, none), (47, none), (50, none), (51, none), (9, some 0)]
theorem fr_X6_addName_b69 {M0 : xM} (fu : Nat)   {k21 : Int32 → xM → Option (Int32 × xM)} (hk21 : ∀ (b0 : Int32) (M : xM), xfr wr_X6_addName M0 M → Fr wr_X6_addName M0 Prod.snd (k21 b0 M)) (x2 : Int32) (M : xM) (hm : xfr wr_X6_addName M0 M) : Fr wr_X6_addName M0 Prod.snd (F_X6_addName_b69 fu k21 x2 M) := by
  unfold F_X6_addName_b69
  exact hk21 _ _ hm
theorem fr_X6_addName_b112 {M0 : xM} (fu : Nat)    : ∀ (n : Nat) (x2 : Int32) (M : xM), xfr wr_X6_addName M0 M → Fr wr_X6_addName M0 Prod.snd (F_X6_addName_b112 fu n x2 M) := by
  intro n
  induction n with
  | zero =>
    intro x2 M hm
    exact Fr.none
  | succ n ih =>
    intro x2 M hm
    rw [F_X6_addName_b112]
    refine Fr.ite ?_ ?_
    · exact Fr.some (hm.setf (by first | decide | simp [xin]))
    · refine Fr.bind (fr_X6_measure fu _ _ _) (by first | decide | simp [xwsub]) hm (fun q1 hm_q1 => ?_)
      exact ih _ _ hm_q1
theorem fr_X6_addName_b21 {M0 : xM} (fu : Nat)    : ∀ (n : Nat) (x2 : Int32) (M : xM), xfr wr_X6_addName M0 M → Fr wr_X6_addName M0 Prod.snd (F_X6_addName_b21 fu n x2 M) := by
  intro n
  induction n with
  | zero =>
    intro x2 M hm
    exact Fr.none
  | succ n ih =>
    intro x2 M hm
    rw [F_X6_addName_b21]
    refine Fr.ite ?_ ?_
    · refine Fr.bind (fr_X9_copyTo fu _ _ _ _) (by first | decide | simp [xwsub]) hm (fun q1 hm_q1 => ?_)
      refine Fr.bind (fr_X1_put _ _ _ _ _) (by first | decide | simp [xwsub]) hm_q1 (fun q2 hm_q2 => ?_)
      exact fr_X6_addName_b112 fu  fu _ _ (hm_q2.setf (by first | decide | simp [xin]))
    · refine Fr.bind (fr_X6_isSame fu _ _ _ _ _ _ _ _) (by first | decide | simp [xwsub]) hm (fun q3 hm_q3 => ?_)
      refine Fr.ite ?_ ?_
      · exact fr_X6_addName_b69 fu ih _ _ hm_q3
      · refine Fr.ite ?_ ?_
        · exact Fr.some hm_q3
        · exact fr_X6_addName_b69 fu ih _ _ hm_q3
theorem fr_X6_addName_b0 {M0 : xM} (fu : Nat)     (M : xM) (hm : xfr wr_X6_addName M0 M) : Fr wr_X6_addName M0 Prod.snd (F_X6_addName fu  M) := by
  unfold F_X6_addName
  refine Fr.ite ?_ ?_
  · exact Fr.some hm
  · refine Fr.bind (fr_X9_isWord fu _ _) (by first | decide | simp [xwsub]) hm (fun q1 hm_q1 => ?_)
    refine Fr.ite ?_ ?_
    · exact Fr.some hm_q1
    · exact fr_X6_addName_b21 fu  fu _ _ hm_q1
theorem fr_X6_addName (fu : Nat)   (M : xM) : Fr wr_X6_addName M Prod.snd (F_X6_addName fu   M) := fr_X6_addName_b0 fu  M xfr.rf
abbrev wr_X6_setReading : List (Nat × Option Nat) := [(2, some 1), (48, none), (49, none), (50, none), (51, none)]
theorem fr_X6_setReading_b82 {M0 : xM} (fu : Nat)  (x1 : Int32) (x2 : Int32)  : ∀ (n : Nat) (x5 : Int32) (x6 : Int32) (M : xM), xfr wr_X6_setReading M0 M → Fr wr_X6_setReading M0 Prod.snd (F_X6_setReading_b82 fu x1 x2 n x5 x6 M) := by
  intro n
  induction n with
  | zero =>
    intro x5 x6 M hm
    exact Fr.none
  | succ n ih =>
    intro x5 x6 M hm
    rw [F_X6_setReading_b82]
    refine Fr.ite ?_ ?_
    · exact Fr.some hm
    · refine Fr.bind (fr_X6_measure fu _ _ _) (by first | decide | simp [xwsub]) hm (fun q1 hm_q1 => ?_)
      exact ih _ _ _ hm_q1
theorem fr_X6_setReading_b24 {M0 : xM} (fu : Nat)  (x1 : Int32) (x2 : Int32)  (s0 : Int32) (M : xM) (hm : xfr wr_X6_setReading M0 M) : Fr wr_X6_setReading M0 Prod.snd (F_X6_setReading_b24 fu x1 x2 s0 M) := by
  unfold F_X6_setReading_b24
  refine Fr.ite ?_ ?_
  · exact Fr.some hm
  · refine Fr.bind (fr_X9_isWord fu _ _) (by first | decide | simp [xwsub]) hm (fun q1 hm_q1 => ?_)
    refine Fr.ite ?_ ?_
    · exact Fr.some hm_q1
    · refine Fr.bind (fr_X9_copyTo fu _ _ _ _) (by first | decide | simp [xwsub]) hm_q1 (fun q2 hm_q2 => ?_)
      refine Fr.bind (fr_X1_put _ _ _ _ _) (by first | decide | simp [xwsub]) hm_q2 (fun q3 hm_q3 => ?_)
      exact fr_X6_setReading_b82 fu x1 x2  fu _ _ _ (hm_q3.setf (by first | decide | simp [xin]))
theorem fr_X6_setReading_b23 {M0 : xM} (fu : Nat)  (x1 : Int32) (x2 : Int32)   (M : xM) (hm : xfr wr_X6_setReading M0 M) : Fr wr_X6_setReading M0 Prod.snd (F_X6_setReading_b23 fu x1 x2  M) := by
  unfold F_X6_setReading_b23
  exact fr_X6_setReading_b24 fu x1 x2  _ _ hm
theorem fr_X6_setReading_b0 {M0 : xM} (fu : Nat)  (x1 : Int32) (x2 : Int32)   (M : xM) (hm : xfr wr_X6_setReading M0 M) : Fr wr_X6_setReading M0 Prod.snd (F_X6_setReading fu x1 x2  M) := by
  unfold F_X6_setReading
  refine Fr.ite ?_ ?_
  · exact fr_X6_setReading_b23 fu x1 x2   _ hm
  · refine Fr.ite ?_ ?_
    · exact fr_X6_setReading_b23 fu x1 x2   _ hm
    · exact fr_X6_setReading_b24 fu x1 x2  _ _ hm
theorem fr_X6_setReading (fu : Nat)  (x1 : Int32) (x2 : Int32) (M : xM) : Fr wr_X6_setReading M Prod.snd (F_X6_setReading fu x1 x2  M) := fr_X6_setReading_b0 fu x1 x2  M xfr.rf
abbrev wr_X6_nearest : List (Nat × Option Nat) := []
theorem fr_X6_nearest_b58 {M0 : xM} (fu : Nat)  (x1 : Int32) (x2 : Int32) {k11 : Int32 → Int32 → Int32 → xM → Option (Int32 × xM)} (hk11 : ∀ (b0 : Int32) (b1 : Int32) (b2 : Int32) (M : xM), xfr wr_X6_nearest M0 M → Fr wr_X6_nearest M0 Prod.snd (k11 b0 b1 b2 M)) (x3 : Int32) (x4 : Int32) (x5 : Int32) (M : xM) (hm : xfr wr_X6_nearest M0 M) : Fr wr_X6_nearest M0 Prod.snd (F_X6_nearest_b58 fu x1 x2 k11 x3 x4 x5 M) := by
  unfold F_X6_nearest_b58
  exact hk11 _ _ _ _ hm
theorem fr_X6_nearest_b42 {M0 : xM} (fu : Nat)  (x1 : Int32) (x2 : Int32) {k11 : Int32 → Int32 → Int32 → xM → Option (Int32 × xM)} (hk11 : ∀ (b0 : Int32) (b1 : Int32) (b2 : Int32) (M : xM), xfr wr_X6_nearest M0 M → Fr wr_X6_nearest M0 Prod.snd (k11 b0 b1 b2 M)) (x3 : Int32) (x4 : Int32) (x5 : Int32) (x6 : Int32) (M : xM) (hm : xfr wr_X6_nearest M0 M) : Fr wr_X6_nearest M0 Prod.snd (F_X6_nearest_b42 fu x1 x2 k11 x3 x4 x5 x6 M) := by
  unfold F_X6_nearest_b42
  refine Fr.ite ?_ ?_
  · exact fr_X6_nearest_b58 fu x1 x2 hk11 _ _ _ _ hm
  · exact fr_X6_nearest_b58 fu x1 x2 hk11 _ _ _ _ hm
theorem fr_X6_nearest_b11 {M0 : xM} (fu : Nat)  (x1 : Int32) (x2 : Int32)  : ∀ (n : Nat) (x3 : Int32) (x4 : Int32) (x5 : Int32) (M : xM), xfr wr_X6_nearest M0 M → Fr wr_X6_nearest M0 Prod.snd (F_X6_nearest_b11 fu x1 x2 n x3 x4 x5 M) := by
  intro n
  induction n with
  | zero =>
    intro x3 x4 x5 M hm
    exact Fr.none
  | succ n ih =>
    intro x3 x4 x5 M hm
    rw [F_X6_nearest_b11]
    refine Fr.ite ?_ ?_
    · exact Fr.some hm
    · refine Fr.ite ?_ ?_
      · exact fr_X6_nearest_b42 fu x1 x2 ih _ _ _ _ _ hm
      · exact fr_X6_nearest_b42 fu x1 x2 ih _ _ _ _ _ hm
theorem fr_X6_nearest_b0 {M0 : xM} (fu : Nat)  (x1 : Int32) (x2 : Int32)   (M : xM) (hm : xfr wr_X6_nearest M0 M) : Fr wr_X6_nearest M0 Prod.snd (F_X6_nearest fu x1 x2  M) := by
  unfold F_X6_nearest
  exact fr_X6_nearest_b11 fu x1 x2  fu _ _ _ _ hm
theorem fr_X6_nearest (fu : Nat)  (x1 : Int32) (x2 : Int32) (M : xM) : Fr wr_X6_nearest M Prod.snd (F_X6_nearest fu x1 x2  M) := fr_X6_nearest_b0 fu x1 x2  M xfr.rf
abbrev wr_X6_isReadAtAll : List (Nat × Option Nat) := []
theorem fr_X6_isReadAtAll_b2 {M0 : xM} (fu : Nat)  (x1 : Int32)  : ∀ (n : Nat) (x2 : Int32) (M : xM), xfr wr_X6_isReadAtAll M0 M → Fr wr_X6_isReadAtAll M0 Prod.snd (F_X6_isReadAtAll_b2 fu x1 n x2 M) := by
  intro n
  induction n with
  | zero =>
    intro x2 M hm
    exact Fr.none
  | succ n ih =>
    intro x2 M hm
    rw [F_X6_isReadAtAll_b2]
    refine Fr.ite ?_ ?_
    · exact Fr.some hm
    · refine Fr.ite ?_ ?_
      · exact ih _ _ hm
      · exact Fr.some hm
theorem fr_X6_isReadAtAll_b0 {M0 : xM} (fu : Nat)  (x1 : Int32)   (M : xM) (hm : xfr wr_X6_isReadAtAll M0 M) : Fr wr_X6_isReadAtAll M0 Prod.snd (F_X6_isReadAtAll fu x1  M) := by
  unfold F_X6_isReadAtAll
  exact fr_X6_isReadAtAll_b2 fu x1  fu _ _ hm
theorem fr_X6_isReadAtAll (fu : Nat)  (x1 : Int32) (M : xM) : Fr wr_X6_isReadAtAll M Prod.snd (F_X6_isReadAtAll fu x1  M) := fr_X6_isReadAtAll_b0 fu x1  M xfr.rf
abbrev wr_X6_agreedName : List (Nat × Option Nat) := []
theorem fr_X6_agreedName_b58 {M0 : xM} (fu : Nat)  (x1 : Int32) {k13 : Int32 → Int32 → Int32 → xM → Option (Int32 × xM)} (hk13 : ∀ (b0 : Int32) (b1 : Int32) (b2 : Int32) (M : xM), xfr wr_X6_agreedName M0 M → Fr wr_X6_agreedName M0 Prod.snd (k13 b0 b1 b2 M)) (x2 : Int32) (x3 : Int32) (x4 : Int32) (M : xM) (hm : xfr wr_X6_agreedName M0 M) : Fr wr_X6_agreedName M0 Prod.snd (F_X6_agreedName_b58 fu x1 k13 x2 x3 x4 M) := by
  unfold F_X6_agreedName_b58
  exact hk13 _ _ _ _ hm
theorem fr_X6_agreedName_b54 {M0 : xM} (fu : Nat)  (x1 : Int32) {k13 : Int32 → Int32 → Int32 → xM → Option (Int32 × xM)} (hk13 : ∀ (b0 : Int32) (b1 : Int32) (b2 : Int32) (M : xM), xfr wr_X6_agreedName M0 M → Fr wr_X6_agreedName M0 Prod.snd (k13 b0 b1 b2 M)) (x4 : Int32) (s0 : Int32) (s1 : Int32) (M : xM) (hm : xfr wr_X6_agreedName M0 M) : Fr wr_X6_agreedName M0 Prod.snd (F_X6_agreedName_b54 fu x1 k13 x4 s0 s1 M) := by
  unfold F_X6_agreedName_b54
  exact fr_X6_agreedName_b58 fu x1 hk13 _ _ _ _ hm
theorem fr_X6_agreedName_b13 {M0 : xM} (fu : Nat)  (x1 : Int32)  : ∀ (n : Nat) (x2 : Int32) (x3 : Int32) (x4 : Int32) (M : xM), xfr wr_X6_agreedName M0 M → Fr wr_X6_agreedName M0 Prod.snd (F_X6_agreedName_b13 fu x1 n x2 x3 x4 M) := by
  intro n
  induction n with
  | zero =>
    intro x2 x3 x4 M hm
    exact Fr.none
  | succ n ih =>
    intro x2 x3 x4 M hm
    rw [F_X6_agreedName_b13]
    refine Fr.ite ?_ ?_
    · refine Fr.ite ?_ ?_
      · exact Fr.some hm
      · refine Fr.ite ?_ ?_
        · exact Fr.some hm
        · exact Fr.some hm
    · refine Fr.ite ?_ ?_
      · exact fr_X6_agreedName_b58 fu x1 ih _ _ _ _ hm
      · refine Fr.bind (fr_X6_nearest fu _ _ _) (by first | decide | simp [xwsub]) hm (fun q1 hm_q1 => ?_)
        refine Fr.ite ?_ ?_
        · exact fr_X6_agreedName_b54 fu x1 ih _ _ _ _ hm_q1
        · exact fr_X6_agreedName_b54 fu x1 ih _ _ _ _ hm_q1
theorem fr_X6_agreedName_b0 {M0 : xM} (fu : Nat)  (x1 : Int32)   (M : xM) (hm : xfr wr_X6_agreedName M0 M) : Fr wr_X6_agreedName M0 Prod.snd (F_X6_agreedName fu x1  M) := by
  unfold F_X6_agreedName
  exact fr_X6_agreedName_b13 fu x1  fu _ _ _ _ hm
theorem fr_X6_agreedName (fu : Nat)  (x1 : Int32) (M : xM) : Fr wr_X6_agreedName M Prod.snd (F_X6_agreedName fu x1  M) := fr_X6_agreedName_b0 fu x1  M xfr.rf
abbrev wr_X6_isUnlike : List (Nat × Option Nat) := []
theorem fr_X6_isUnlike_b95 {M0 : xM} (fu : Nat)  (x1 : Int32) {k4 : Int32 → Int32 → xM → Option (Int32 × xM)} (hk4 : ∀ (b0 : Int32) (b1 : Int32) (M : xM), xfr wr_X6_isUnlike M0 M → Fr wr_X6_isUnlike M0 Prod.snd (k4 b0 b1 M)) (x2 : Int32) (x3 : Int32) (M : xM) (hm : xfr wr_X6_isUnlike M0 M) : Fr wr_X6_isUnlike M0 Prod.snd (F_X6_isUnlike_b95 fu x1 k4 x2 x3 M) := by
  unfold F_X6_isUnlike_b95
  exact hk4 _ _ _ hm
theorem fr_X6_isUnlike_b86 {M0 : xM} (fu : Nat)  (x1 : Int32) {k4 : Int32 → Int32 → xM → Option (Int32 × xM)} (hk4 : ∀ (b0 : Int32) (b1 : Int32) (M : xM), xfr wr_X6_isUnlike M0 M → Fr wr_X6_isUnlike M0 Prod.snd (k4 b0 b1 M)) (x2 : Int32) (x3 : Int32) (s0 : Int32) (M : xM) (hm : xfr wr_X6_isUnlike M0 M) : Fr wr_X6_isUnlike M0 Prod.snd (F_X6_isUnlike_b86 fu x1 k4 x2 x3 s0 M) := by
  unfold F_X6_isUnlike_b86
  refine Fr.ite ?_ ?_
  · exact Fr.some hm
  · exact fr_X6_isUnlike_b95 fu x1 hk4 _ _ _ hm
theorem fr_X6_isUnlike_b85 {M0 : xM} (fu : Nat)  (x1 : Int32) {k4 : Int32 → Int32 → xM → Option (Int32 × xM)} (hk4 : ∀ (b0 : Int32) (b1 : Int32) (M : xM), xfr wr_X6_isUnlike M0 M → Fr wr_X6_isUnlike M0 Prod.snd (k4 b0 b1 M)) (x2 : Int32) (x3 : Int32) (M : xM) (hm : xfr wr_X6_isUnlike M0 M) : Fr wr_X6_isUnlike M0 Prod.snd (F_X6_isUnlike_b85 fu x1 k4 x2 x3 M) := by
  unfold F_X6_isUnlike_b85
  exact fr_X6_isUnlike_b86 fu x1 hk4 _ _ _ _ hm
theorem fr_X6_isUnlike_b43 {M0 : xM} (fu : Nat)  (x1 : Int32) {k4 : Int32 → Int32 → xM → Option (Int32 × xM)} (hk4 : ∀ (b0 : Int32) (b1 : Int32) (M : xM), xfr wr_X6_isUnlike M0 M → Fr wr_X6_isUnlike M0 Prod.snd (k4 b0 b1 M)) (x2 : Int32) (x3 : Int32) (x4 : Int32) (x5 : Int32) (M : xM) (hm : xfr wr_X6_isUnlike M0 M) : Fr wr_X6_isUnlike M0 Prod.snd (F_X6_isUnlike_b43 fu x1 k4 x2 x3 x4 x5 M) := by
  unfold F_X6_isUnlike_b43
  refine Fr.ite ?_ ?_
  · refine Fr.bind (fr_X6_isSame fu _ _ _ _ _ _ _ _) (by first | decide | simp [xwsub]) hm (fun q1 hm_q1 => ?_)
    refine Fr.ite ?_ ?_
    · exact fr_X6_isUnlike_b85 fu x1 hk4 _ _ _ hm_q1
    · exact fr_X6_isUnlike_b86 fu x1 hk4 _ _ _ _ hm_q1
  · exact fr_X6_isUnlike_b85 fu x1 hk4 _ _ _ hm
theorem fr_X6_isUnlike_b4 {M0 : xM} (fu : Nat)  (x1 : Int32)  : ∀ (n : Nat) (x2 : Int32) (x3 : Int32) (M : xM), xfr wr_X6_isUnlike M0 M → Fr wr_X6_isUnlike M0 Prod.snd (F_X6_isUnlike_b4 fu x1 n x2 x3 M) := by
  intro n
  induction n with
  | zero =>
    intro x2 x3 M hm
    exact Fr.none
  | succ n ih =>
    intro x2 x3 M hm
    rw [F_X6_isUnlike_b4]
    refine Fr.ite ?_ ?_
    · exact Fr.some hm
    · refine Fr.ite ?_ ?_
      · exact fr_X6_isUnlike_b95 fu x1 ih _ _ _ hm
      · refine Fr.ite ?_ ?_
        · exact fr_X6_isUnlike_b43 fu x1 ih _ _ _ _ _ hm
        · exact fr_X6_isUnlike_b43 fu x1 ih _ _ _ _ _ hm
theorem fr_X6_isUnlike_b0 {M0 : xM} (fu : Nat)  (x1 : Int32)   (M : xM) (hm : xfr wr_X6_isUnlike M0 M) : Fr wr_X6_isUnlike M0 Prod.snd (F_X6_isUnlike fu x1  M) := by
  unfold F_X6_isUnlike
  exact fr_X6_isUnlike_b4 fu x1  fu _ _ _ hm
theorem fr_X6_isUnlike (fu : Nat)  (x1 : Int32) (M : xM) : Fr wr_X6_isUnlike M Prod.snd (F_X6_isUnlike fu x1  M) := fr_X6_isUnlike_b0 fu x1  M xfr.rf
abbrev wr_X6_counts : List (Nat × Option Nat) := []
theorem fr_X6_counts_b0 {M0 : xM} (fu : Nat)  (x1 : Int32) (x2 : Int32)   (M : xM) (hm : xfr wr_X6_counts M0 M) : Fr wr_X6_counts M0 Prod.snd (F_X6_counts fu x1 x2  M) := by
  unfold F_X6_counts
  refine Fr.ite ?_ ?_
  · refine Fr.bind (fr_X6_isReadAtAll fu _ _) (by first | decide | simp [xwsub]) hm (fun q1 hm_q1 => ?_)
    exact Fr.ite (Fr.some hm_q1) Fr.none
  · refine Fr.ite ?_ ?_
    · refine Fr.bind (fr_X6_agreedName fu _ _) (by first | decide | simp [xwsub]) hm (fun q2 hm_q2 => ?_)
      refine Fr.ite ?_ ?_
      · exact Fr.some hm_q2
      · exact Fr.some hm_q2
    · refine Fr.ite ?_ ?_
      · refine Fr.bind (fr_X6_isReadAtAll fu _ _) (by first | decide | simp [xwsub]) hm (fun q3 hm_q3 => ?_)
        refine Fr.ite ?_ ?_
        · exact Fr.some hm_q3
        · refine Fr.bind (fr_X6_agreedName fu _ _) (by first | decide | simp [xwsub]) hm_q3 (fun q4 hm_q4 => ?_)
          refine Fr.ite ?_ ?_
          · exact Fr.some hm_q4
          · exact Fr.some hm_q4
      · refine Fr.bind (fr_X6_isUnlike fu _ _) (by first | decide | simp [xwsub]) hm (fun q5 hm_q5 => ?_)
        exact Fr.ite (Fr.some hm_q5) Fr.none
theorem fr_X6_counts (fu : Nat)  (x1 : Int32) (x2 : Int32) (M : xM) : Fr wr_X6_counts M Prod.snd (F_X6_counts fu x1 x2  M) := fr_X6_counts_b0 fu x1 x2  M xfr.rf
abbrev wr_X6_howMany : List (Nat × Option Nat) := []
theorem fr_X6_howMany_b22 {M0 : xM} (fu : Nat)  (x1 : Int32) {k4 : Int32 → Int32 → xM → Option (Int32 × xM)} (hk4 : ∀ (b0 : Int32) (b1 : Int32) (M : xM), xfr wr_X6_howMany M0 M → Fr wr_X6_howMany M0 Prod.snd (k4 b0 b1 M)) (x2 : Int32) (x3 : Int32) (M : xM) (hm : xfr wr_X6_howMany M0 M) : Fr wr_X6_howMany M0 Prod.snd (F_X6_howMany_b22 fu x1 k4 x2 x3 M) := by
  unfold F_X6_howMany_b22
  exact hk4 _ _ _ hm
theorem fr_X6_howMany_b4 {M0 : xM} (fu : Nat)  (x1 : Int32)  : ∀ (n : Nat) (x2 : Int32) (x3 : Int32) (M : xM), xfr wr_X6_howMany M0 M → Fr wr_X6_howMany M0 Prod.snd (F_X6_howMany_b4 fu x1 n x2 x3 M) := by
  intro n
  induction n with
  | zero =>
    intro x2 x3 M hm
    exact Fr.none
  | succ n ih =>
    intro x2 x3 M hm
    rw [F_X6_howMany_b4]
    refine Fr.ite ?_ ?_
    · exact Fr.some hm
    · refine Fr.bind (fr_X6_counts fu _ _ _) (by first | decide | simp [xwsub]) hm (fun q1 hm_q1 => ?_)
      refine Fr.ite ?_ ?_
      · exact fr_X6_howMany_b22 fu x1 ih _ _ _ hm_q1
      · exact fr_X6_howMany_b22 fu x1 ih _ _ _ hm_q1
theorem fr_X6_howMany_b0 {M0 : xM} (fu : Nat)  (x1 : Int32)   (M : xM) (hm : xfr wr_X6_howMany M0 M) : Fr wr_X6_howMany M0 Prod.snd (F_X6_howMany fu x1  M) := by
  unfold F_X6_howMany
  exact fr_X6_howMany_b4 fu x1  fu _ _ _ hm
theorem fr_X6_howMany (fu : Nat)  (x1 : Int32) (M : xM) : Fr wr_X6_howMany M Prod.snd (F_X6_howMany fu x1  M) := fr_X6_howMany_b0 fu x1  M xfr.rf
abbrev wr_X6_sureFor : List (Nat × Option Nat) := []
theorem fr_X6_sureFor_b22 {M0 : xM} (fu : Nat)  (x1 : Int32) {k4 : Int32 → Int32 → xM → Option (Int32 × xM)} (hk4 : ∀ (b0 : Int32) (b1 : Int32) (M : xM), xfr wr_X6_sureFor M0 M → Fr wr_X6_sureFor M0 Prod.snd (k4 b0 b1 M)) (x2 : Int32) (x3 : Int32) (M : xM) (hm : xfr wr_X6_sureFor M0 M) : Fr wr_X6_sureFor M0 Prod.snd (F_X6_sureFor_b22 fu x1 k4 x2 x3 M) := by
  unfold F_X6_sureFor_b22
  exact hk4 _ _ _ hm
theorem fr_X6_sureFor_b4 {M0 : xM} (fu : Nat)  (x1 : Int32)  : ∀ (n : Nat) (x2 : Int32) (x3 : Int32) (M : xM), xfr wr_X6_sureFor M0 M → Fr wr_X6_sureFor M0 Prod.snd (F_X6_sureFor_b4 fu x1 n x2 x3 M) := by
  intro n
  induction n with
  | zero =>
    intro x2 x3 M hm
    exact Fr.none
  | succ n ih =>
    intro x2 x3 M hm
    rw [F_X6_sureFor_b4]
    refine Fr.ite ?_ ?_
    · exact Fr.some hm
    · refine Fr.bind (fr_X6_agreedName fu _ _) (by first | decide | simp [xwsub]) hm (fun q1 hm_q1 => ?_)
      refine Fr.ite ?_ ?_
      · exact fr_X6_sureFor_b22 fu x1 ih _ _ _ hm_q1
      · exact fr_X6_sureFor_b22 fu x1 ih _ _ _ hm_q1
theorem fr_X6_sureFor_b0 {M0 : xM} (fu : Nat)  (x1 : Int32)   (M : xM) (hm : xfr wr_X6_sureFor M0 M) : Fr wr_X6_sureFor M0 Prod.snd (F_X6_sureFor fu x1  M) := by
  unfold F_X6_sureFor
  exact fr_X6_sureFor_b4 fu x1  fu _ _ _ hm
theorem fr_X6_sureFor (fu : Nat)  (x1 : Int32) (M : xM) : Fr wr_X6_sureFor M Prod.snd (F_X6_sureFor fu x1  M) := fr_X6_sureFor_b0 fu x1  M xfr.rf
abbrev wr_X6_mayBeFor : List (Nat × Option Nat) := []
theorem fr_X6_mayBeFor_b31 {M0 : xM} (fu : Nat)  (x1 : Int32) (x2 : Int32) {k2 : Int32 → xM → Option (Int32 × xM)} (hk2 : ∀ (b0 : Int32) (M : xM), xfr wr_X6_mayBeFor M0 M → Fr wr_X6_mayBeFor M0 Prod.snd (k2 b0 M)) (x3 : Int32) (M : xM) (hm : xfr wr_X6_mayBeFor M0 M) : Fr wr_X6_mayBeFor M0 Prod.snd (F_X6_mayBeFor_b31 fu x1 x2 k2 x3 M) := by
  unfold F_X6_mayBeFor_b31
  exact hk2 _ _ hm
theorem fr_X6_mayBeFor_b2 {M0 : xM} (fu : Nat)  (x1 : Int32) (x2 : Int32)  : ∀ (n : Nat) (x3 : Int32) (M : xM), xfr wr_X6_mayBeFor M0 M → Fr wr_X6_mayBeFor M0 Prod.snd (F_X6_mayBeFor_b2 fu x1 x2 n x3 M) := by
  intro n
  induction n with
  | zero =>
    intro x3 M hm
    exact Fr.none
  | succ n ih =>
    intro x3 M hm
    rw [F_X6_mayBeFor_b2]
    refine Fr.ite ?_ ?_
    · exact Fr.some hm
    · refine Fr.ite ?_ ?_
      · exact fr_X6_mayBeFor_b31 fu x1 x2 ih _ _ hm
      · refine Fr.bind (fr_X6_nearest fu _ _ _) (by first | decide | simp [xwsub]) hm (fun q1 hm_q1 => ?_)
        refine Fr.ite ?_ ?_
        · exact fr_X6_mayBeFor_b31 fu x1 x2 ih _ _ hm_q1
        · exact Fr.some hm_q1
theorem fr_X6_mayBeFor_b0 {M0 : xM} (fu : Nat)  (x1 : Int32) (x2 : Int32)   (M : xM) (hm : xfr wr_X6_mayBeFor M0 M) : Fr wr_X6_mayBeFor M0 Prod.snd (F_X6_mayBeFor fu x1 x2  M) := by
  unfold F_X6_mayBeFor
  exact fr_X6_mayBeFor_b2 fu x1 x2  fu _ _ hm
theorem fr_X6_mayBeFor (fu : Nat)  (x1 : Int32) (x2 : Int32) (M : xM) : Fr wr_X6_mayBeFor M Prod.snd (F_X6_mayBeFor fu x1 x2  M) := fr_X6_mayBeFor_b0 fu x1 x2  M xfr.rf
abbrev wr_X6_mostFor : List (Nat × Option Nat) := []
theorem fr_X6_mostFor_b22 {M0 : xM} (fu : Nat)  (x1 : Int32) {k4 : Int32 → Int32 → xM → Option (Int32 × xM)} (hk4 : ∀ (b0 : Int32) (b1 : Int32) (M : xM), xfr wr_X6_mostFor M0 M → Fr wr_X6_mostFor M0 Prod.snd (k4 b0 b1 M)) (x2 : Int32) (x3 : Int32) (M : xM) (hm : xfr wr_X6_mostFor M0 M) : Fr wr_X6_mostFor M0 Prod.snd (F_X6_mostFor_b22 fu x1 k4 x2 x3 M) := by
  unfold F_X6_mostFor_b22
  exact hk4 _ _ _ hm
theorem fr_X6_mostFor_b4 {M0 : xM} (fu : Nat)  (x1 : Int32)  : ∀ (n : Nat) (x2 : Int32) (x3 : Int32) (M : xM), xfr wr_X6_mostFor M0 M → Fr wr_X6_mostFor M0 Prod.snd (F_X6_mostFor_b4 fu x1 n x2 x3 M) := by
  intro n
  induction n with
  | zero =>
    intro x2 x3 M hm
    exact Fr.none
  | succ n ih =>
    intro x2 x3 M hm
    rw [F_X6_mostFor_b4]
    refine Fr.ite ?_ ?_
    · exact Fr.some hm
    · refine Fr.bind (fr_X6_mayBeFor fu _ _ _) (by first | decide | simp [xwsub]) hm (fun q1 hm_q1 => ?_)
      refine Fr.ite ?_ ?_
      · exact fr_X6_mostFor_b22 fu x1 ih _ _ _ hm_q1
      · exact fr_X6_mostFor_b22 fu x1 ih _ _ _ hm_q1
theorem fr_X6_mostFor_b0 {M0 : xM} (fu : Nat)  (x1 : Int32)   (M : xM) (hm : xfr wr_X6_mostFor M0 M) : Fr wr_X6_mostFor M0 Prod.snd (F_X6_mostFor fu x1  M) := by
  unfold F_X6_mostFor
  exact fr_X6_mostFor_b4 fu x1  fu _ _ _ hm
theorem fr_X6_mostFor (fu : Nat)  (x1 : Int32) (M : xM) : Fr wr_X6_mostFor M Prod.snd (F_X6_mostFor fu x1  M) := fr_X6_mostFor_b0 fu x1  M xfr.rf
abbrev wr_X6_isAboveOthers : List (Nat × Option Nat) := []
theorem fr_X6_isAboveOthers_b32 {M0 : xM} (fu : Nat)  (x1 : Int32) {k8 : Int32 → Int32 → xM → Option (Int32 × xM)} (hk8 : ∀ (b0 : Int32) (b1 : Int32) (M : xM), xfr wr_X6_isAboveOthers M0 M → Fr wr_X6_isAboveOthers M0 Prod.snd (k8 b0 b1 M)) (x2 : Int32) (x3 : Int32) (M : xM) (hm : xfr wr_X6_isAboveOthers M0 M) : Fr wr_X6_isAboveOthers M0 Prod.snd (F_X6_isAboveOthers_b32 fu x1 k8 x2 x3 M) := by
  unfold F_X6_isAboveOthers_b32
  exact hk8 _ _ _ hm
theorem fr_X6_isAboveOthers_b8 {M0 : xM} (fu : Nat)  (x1 : Int32)  : ∀ (n : Nat) (x2 : Int32) (x3 : Int32) (M : xM), xfr wr_X6_isAboveOthers M0 M → Fr wr_X6_isAboveOthers M0 Prod.snd (F_X6_isAboveOthers_b8 fu x1 n x2 x3 M) := by
  intro n
  induction n with
  | zero =>
    intro x2 x3 M hm
    exact Fr.none
  | succ n ih =>
    intro x2 x3 M hm
    rw [F_X6_isAboveOthers_b8]
    refine Fr.ite ?_ ?_
    · exact Fr.some hm
    · refine Fr.ite ?_ ?_
      · exact fr_X6_isAboveOthers_b32 fu x1 ih _ _ _ hm
      · refine Fr.bind (fr_X6_mostFor fu _ _) (by first | decide | simp [xwsub]) hm (fun q1 hm_q1 => ?_)
        refine Fr.ite ?_ ?_
        · exact fr_X6_isAboveOthers_b32 fu x1 ih _ _ _ hm_q1
        · exact Fr.some hm_q1
theorem fr_X6_isAboveOthers_b0 {M0 : xM} (fu : Nat)  (x1 : Int32)   (M : xM) (hm : xfr wr_X6_isAboveOthers M0 M) : Fr wr_X6_isAboveOthers M0 Prod.snd (F_X6_isAboveOthers fu x1  M) := by
  unfold F_X6_isAboveOthers
  refine Fr.bind (fr_X6_sureFor fu _ _) (by first | decide | simp [xwsub]) hm (fun q1 hm_q1 => ?_)
  exact fr_X6_isAboveOthers_b8 fu x1  fu _ _ _ hm_q1
theorem fr_X6_isAboveOthers (fu : Nat)  (x1 : Int32) (M : xM) : Fr wr_X6_isAboveOthers M Prod.snd (F_X6_isAboveOthers fu x1  M) := fr_X6_isAboveOthers_b0 fu x1  M xfr.rf
abbrev wr_X6_sureWinner : List (Nat × Option Nat) := []
theorem fr_X6_sureWinner_b2 {M0 : xM} (fu : Nat)    : ∀ (n : Nat) (x1 : Int32) (M : xM), xfr wr_X6_sureWinner M0 M → Fr wr_X6_sureWinner M0 Prod.snd (F_X6_sureWinner_b2 fu n x1 M) := by
  intro n
  induction n with
  | zero =>
    intro x1 M hm
    exact Fr.none
  | succ n ih =>
    intro x1 M hm
    rw [F_X6_sureWinner_b2]
    refine Fr.ite ?_ ?_
    · exact Fr.some hm
    · refine Fr.bind (fr_X6_isAboveOthers fu _ _) (by first | decide | simp [xwsub]) hm (fun q1 hm_q1 => ?_)
      refine Fr.ite ?_ ?_
      · exact ih _ _ hm_q1
      · exact Fr.some hm_q1
theorem fr_X6_sureWinner_b0 {M0 : xM} (fu : Nat)     (M : xM) (hm : xfr wr_X6_sureWinner M0 M) : Fr wr_X6_sureWinner M0 Prod.snd (F_X6_sureWinner fu  M) := by
  unfold F_X6_sureWinner
  exact fr_X6_sureWinner_b2 fu  fu _ _ hm
theorem fr_X6_sureWinner (fu : Nat)   (M : xM) : Fr wr_X6_sureWinner M Prod.snd (F_X6_sureWinner fu   M) := fr_X6_sureWinner_b0 fu  M xfr.rf
abbrev wr_X7_add : List (Nat × Option Nat) := [(52, none), (53, none), (54, none), (55, none)]
theorem fr_X7_add_b39 {M0 : xM}  (x1 : Int32) (x2 : Int32) (x3 : Int32) (x4 : Int32)  (x5 : Int32) (x6 : Int32) (s0 : Int32) (M : xM) (hm : xfr wr_X7_add M0 M) : Fr wr_X7_add M0 Prod.snd (F_X7_add_b39 x1 x2 x3 x4 x5 x6 s0 M) := by
  unfold F_X7_add_b39
  refine Fr.ite ?_ ?_
  · exact Fr.some hm
  · refine Fr.ite ?_ ?_
    · exact Fr.some hm
    · refine Fr.ite ?_ ?_
      · exact Fr.some hm
      · refine Fr.ite ?_ ?_
        · exact Fr.some hm
        · refine Fr.bind (fr_X1_put _ _ _ _ _) (by first | decide | simp [xwsub]) hm (fun q1 hm_q1 => ?_)
          refine Fr.bind (fr_X1_put _ _ _ _ _) (by first | decide | simp [xwsub]) hm_q1 (fun q2 hm_q2 => ?_)
          refine Fr.bind (fr_X1_put _ _ _ _ _) (by first | decide | simp [xwsub]) hm_q2 (fun q3 hm_q3 => ?_)
          refine Fr.bind (fr_X1_put _ _ _ _ _) (by first | decide | simp [xwsub]) hm_q3 (fun q4 hm_q4 => ?_)
          exact Fr.some hm_q4
theorem fr_X7_add_b0 {M0 : xM}  (x1 : Int32) (x2 : Int32) (x3 : Int32) (x4 : Int32)   (M : xM) (hm : xfr wr_X7_add M0 M) : Fr wr_X7_add M0 Prod.snd (F_X7_add x1 x2 x3 x4  M) := by
  unfold F_X7_add
  refine Fr.ite ?_ ?_
  · exact fr_X7_add_b39 x1 x2 x3 x4  _ _ _ _ hm
  · exact fr_X7_add_b39 x1 x2 x3 x4  _ _ _ _ hm
theorem fr_X7_add  (x1 : Int32) (x2 : Int32) (x3 : Int32) (x4 : Int32) (M : xM) : Fr wr_X7_add M Prod.snd (F_X7_add  x1 x2 x3 x4  M) := fr_X7_add_b0 x1 x2 x3 x4  M xfr.rf
abbrev wr_X7_follow : List (Nat × Option Nat) := [(10, some 4), (10, some 5)]
theorem fr_X7_follow_b177 {M0 : xM} (fu : Nat)  (x1 : Int32) {k20 : Int32 → Int32 → Int32 → xM → Option (xM)} (hk20 : ∀ (b0 : Int32) (b1 : Int32) (b2 : Int32) (M : xM), xfr wr_X7_follow M0 M → Fr wr_X7_follow M0 id (k20 b0 b1 b2 M)) (x2 : Int32) (x3 : Int32) (x4 : Int32) (s0 : Int32) (s1 : Int32) (M : xM) (hm : xfr wr_X7_follow M0 M) : Fr wr_X7_follow M0 id (F_X7_follow_b177 fu x1 k20 x2 x3 x4 s0 s1 M) := by
  unfold F_X7_follow_b177
  exact hk20 _ _ _ _ (hm.setf (by first | decide | simp [xin]))
theorem fr_X7_follow_b157 {M0 : xM} (fu : Nat)  (x1 : Int32) {k20 : Int32 → Int32 → Int32 → xM → Option (xM)} (hk20 : ∀ (b0 : Int32) (b1 : Int32) (b2 : Int32) (M : xM), xfr wr_X7_follow M0 M → Fr wr_X7_follow M0 id (k20 b0 b1 b2 M)) (x2 : Int32) (x3 : Int32) (x4 : Int32) (M : xM) (hm : xfr wr_X7_follow M0 M) : Fr wr_X7_follow M0 id (F_X7_follow_b157 fu x1 k20 x2 x3 x4 M) := by
  unfold F_X7_follow_b157
  refine Fr.ite ?_ ?_
  · exact fr_X7_follow_b177 fu x1 hk20 _ _ _ _ _ _ hm
  · exact fr_X7_follow_b177 fu x1 hk20 _ _ _ _ _ _ hm
theorem fr_X7_follow_b88 {M0 : xM} (fu : Nat)  (x1 : Int32) {k20 : Int32 → Int32 → Int32 → xM → Option (xM)} (hk20 : ∀ (b0 : Int32) (b1 : Int32) (b2 : Int32) (M : xM), xfr wr_X7_follow M0 M → Fr wr_X7_follow M0 id (k20 b0 b1 b2 M)) (x4 : Int32) (x6 : Int32) (s0 : Int32) (s1 : Int32) (M : xM) (hm : xfr wr_X7_follow M0 M) : Fr wr_X7_follow M0 id (F_X7_follow_b88 fu x1 k20 x4 x6 s0 s1 M) := by
  unfold F_X7_follow_b88
  exact fr_X7_follow_b157 fu x1 hk20 _ _ _ _ (hm.setf (by first | decide | simp [xin]))
theorem fr_X7_follow_b116 {M0 : xM} (fu : Nat)  (x1 : Int32) {k20 : Int32 → Int32 → Int32 → xM → Option (xM)} (hk20 : ∀ (b0 : Int32) (b1 : Int32) (b2 : Int32) (M : xM), xfr wr_X7_follow M0 M → Fr wr_X7_follow M0 id (k20 b0 b1 b2 M)) (x3 : Int32) (x4 : Int32) (M : xM) (hm : xfr wr_X7_follow M0 M) : Fr wr_X7_follow M0 id (F_X7_follow_b116 fu x1 k20 x3 x4 M) := by
  unfold F_X7_follow_b116
  exact fr_X7_follow_b157 fu x1 hk20 _ _ _ _ ((hm.setf (by first | decide | simp [xin])).setf (by first | decide | simp [xin]))
theorem fr_X7_follow_b149 {M0 : xM} (fu : Nat)  (x1 : Int32) {k20 : Int32 → Int32 → Int32 → xM → Option (xM)} (hk20 : ∀ (b0 : Int32) (b1 : Int32) (b2 : Int32) (M : xM), xfr wr_X7_follow M0 M → Fr wr_X7_follow M0 id (k20 b0 b1 b2 M)) (x2 : Int32) (x3 : Int32) (x4 : Int32) (x5 : Int32) (M : xM) (hm : xfr wr_X7_follow M0 M) : Fr wr_X7_follow M0 id (F_X7_follow_b149 fu x1 k20 x2 x3 x4 x5 M) := by
  unfold F_X7_follow_b149
  refine Fr.ite ?_ ?_
  · exact fr_X7_follow_b157 fu x1 hk20 _ _ _ _ hm
  · exact fr_X7_follow_b157 fu x1 hk20 _ _ _ _ hm
theorem fr_X7_follow_b20 {M0 : xM} (fu : Nat)  (x1 : Int32)  : ∀ (n : Nat) (x2 : Int32) (x3 : Int32) (x4 : Int32) (M : xM), xfr wr_X7_follow M0 M → Fr wr_X7_follow M0 id (F_X7_follow_b20 fu x1 n x2 x3 x4 M) := by
  intro n
  induction n with
  | zero =>
    intro x2 x3 x4 M hm
    exact Fr.none
  | succ n ih =>
    intro x2 x3 x4 M hm
    rw [F_X7_follow_b20]
    refine Fr.ite ?_ ?_
    · exact Fr.somev hm
    · refine Fr.ite ?_ ?_
      · refine Fr.ite ?_ ?_
        · exact fr_X7_follow_b88 fu x1 ih _ _ _ _ _ hm
        · exact fr_X7_follow_b88 fu x1 ih _ _ _ _ _ hm
      · refine Fr.ite ?_ ?_
        · refine Fr.ite ?_ ?_
          · exact fr_X7_follow_b116 fu x1 ih _ _ _ hm
          · refine Fr.ite ?_ ?_
            · exact fr_X7_follow_b149 fu x1 ih _ _ _ _ _ hm
            · exact fr_X7_follow_b116 fu x1 ih _ _ _ hm
        · exact fr_X7_follow_b149 fu x1 ih _ _ _ _ _ hm
theorem fr_X7_follow_b0 {M0 : xM} (fu : Nat)  (x1 : Int32)   (M : xM) (hm : xfr wr_X7_follow M0 M) : Fr wr_X7_follow M0 id (F_X7_follow fu x1  M) := by
  unfold F_X7_follow
  exact fr_X7_follow_b20 fu x1  fu _ _ _ _ ((hm.setf (by first | decide | simp [xin])).setf (by first | decide | simp [xin]))
theorem fr_X7_follow (fu : Nat)  (x1 : Int32) (M : xM) : Fr wr_X7_follow M id (F_X7_follow fu x1  M) := fr_X7_follow_b0 fu x1  M xfr.rf
abbrev wr_X7_badEvents : List (Nat × Option Nat) := [(10, some 4), (10, some 5)]
theorem fr_X7_badEvents_b0 {M0 : xM} (fu : Nat)  (x1 : Int32)   (M : xM) (hm : xfr wr_X7_badEvents M0 M) : Fr wr_X7_badEvents M0 Prod.snd (F_X7_badEvents fu x1  M) := by
  unfold F_X7_badEvents
  refine Fr.bind (fr_X7_follow fu _ _) (by first | decide | simp [xwsub]) hm (fun q1 hm_q1 => ?_)
  exact Fr.some hm_q1
theorem fr_X7_badEvents (fu : Nat)  (x1 : Int32) (M : xM) : Fr wr_X7_badEvents M Prod.snd (F_X7_badEvents fu x1  M) := fr_X7_badEvents_b0 fu x1  M xfr.rf
abbrev wr_X7_openTime : List (Nat × Option Nat) := [(10, some 4), (10, some 5)]
theorem fr_X7_openTime_b143 {M0 : xM} (fu : Nat)  (x1 : Int32) (x2 : Int32) (x3 : Int32) (x4 : Int32) {k27 : Int32 → Int32 → Int32 → Int32 → Int32 → xM → Option (Int32 × xM)} (hk27 : ∀ (b0 : Int32) (b1 : Int32) (b2 : Int32) (b3 : Int32) (b4 : Int32) (M : xM), xfr wr_X7_openTime M0 M → Fr wr_X7_openTime M0 Prod.snd (k27 b0 b1 b2 b3 b4 M)) (x5 : Int32) (x6 : Int32) (x7 : Int32) (x8 : Int32) (x9 : Int32) (M : xM) (hm : xfr wr_X7_openTime M0 M) : Fr wr_X7_openTime M0 Prod.snd (F_X7_openTime_b143 fu x1 x2 x3 x4 k27 x5 x6 x7 x8 x9 M) := by
  unfold F_X7_openTime_b143
  exact hk27 _ _ _ _ _ _ hm
theorem fr_X7_openTime_b108 {M0 : xM} (fu : Nat)  (x1 : Int32) (x2 : Int32) (x3 : Int32) (x4 : Int32) {k27 : Int32 → Int32 → Int32 → Int32 → Int32 → xM → Option (Int32 × xM)} (hk27 : ∀ (b0 : Int32) (b1 : Int32) (b2 : Int32) (b3 : Int32) (b4 : Int32) (M : xM), xfr wr_X7_openTime M0 M → Fr wr_X7_openTime M0 Prod.snd (k27 b0 b1 b2 b3 b4 M)) (x5 : Int32) (x7 : Int32) (x8 : Int32) (x9 : Int32) (x10 : Int32) (x11 : Int32) (M : xM) (hm : xfr wr_X7_openTime M0 M) : Fr wr_X7_openTime M0 Prod.snd (F_X7_openTime_b108 fu x1 x2 x3 x4 k27 x5 x7 x8 x9 x10 x11 M) := by
  unfold F_X7_openTime_b108
  refine Fr.ite ?_ ?_
  · exact fr_X7_openTime_b143 fu x1 x2 x3 x4 hk27 _ _ _ _ _ _ hm
  · refine Fr.ite ?_ ?_
    · exact fr_X7_openTime_b143 fu x1 x2 x3 x4 hk27 _ _ _ _ _ _ hm
    · exact fr_X7_openTime_b143 fu x1 x2 x3 x4 hk27 _ _ _ _ _ _ hm
theorem fr_X7_openTime_b65 {M0 : xM} (fu : Nat)  (x1 : Int32) (x2 : Int32) (x3 : Int32) (x4 : Int32) {k27 : Int32 → Int32 → Int32 → Int32 → Int32 → xM → Option (Int32 × xM)} (hk27 : ∀ (b0 : Int32) (b1 : Int32) (b2 : Int32) (b3 : Int32) (b4 : Int32) (M : xM), xfr wr_X7_openTime M0 M → Fr wr_X7_openTime M0 Prod.snd (k27 b0 b1 b2 b3 b4 M)) (x5 : Int32) (x6 : Int32) (x7 : Int32) (x8 : Int32) (x9 : Int32) (x10 : Int32) (s0 : Int32) (M : xM) (hm : xfr wr_X7_openTime M0 M) : Fr wr_X7_openTime M0 Prod.snd (F_X7_openTime_b65 fu x1 x2 x3 x4 k27 x5 x6 x7 x8 x9 x10 s0 M) := by
  unfold F_X7_openTime_b65
  refine Fr.ite ?_ ?_
  · exact fr_X7_openTime_b108 fu x1 x2 x3 x4 hk27 _ _ _ _ _ _ _ hm
  · refine Fr.ite ?_ ?_
    · exact fr_X7_openTime_b108 fu x1 x2 x3 x4 hk27 _ _ _ _ _ _ _ hm
    · exact fr_X7_openTime_b108 fu x1 x2 x3 x4 hk27 _ _ _ _ _ _ _ hm
theorem fr_X7_openTime_b27 {M0 : xM} (fu : Nat)  (x1 : Int32) (x2 : Int32) (x3 : Int32) (x4 : Int32)  : ∀ (n : Nat) (x5 : Int32) (x6 : Int32) (x7 : Int32) (x8 : Int32) (x9 : Int32) (M : xM), xfr wr_X7_openTime M0 M → Fr wr_X7_openTime M0 Prod.snd (F_X7_openTime_b27 fu x1 x2 x3 x4 n x5 x6 x7 x8 x9 M) := by
  intro n
  induction n with
  | zero =>
    intro x5 x6 x7 x8 x9 M hm
    exact Fr.none
  | succ n ih =>
    intro x5 x6 x7 x8 x9 M hm
    rw [F_X7_openTime_b27]
    refine Fr.ite ?_ ?_
    · exact Fr.some hm
    · refine Fr.ite ?_ ?_
      · exact fr_X7_openTime_b65 fu x1 x2 x3 x4 ih _ _ _ _ _ _ _ _ hm
      · exact fr_X7_openTime_b65 fu x1 x2 x3 x4 ih _ _ _ _ _ _ _ _ hm
theorem fr_X7_openTime_b0 {M0 : xM} (fu : Nat)  (x1 : Int32) (x2 : Int32) (x3 : Int32) (x4 : Int32)   (M : xM) (hm : xfr wr_X7_openTime M0 M) : Fr wr_X7_openTime M0 Prod.snd (F_X7_openTime fu x1 x2 x3 x4  M) := by
  unfold F_X7_openTime
  refine Fr.bind (fr_X7_follow fu _ _) (by first | decide | simp [xwsub]) hm (fun q1 hm_q1 => ?_)
  exact fr_X7_openTime_b27 fu x1 x2 x3 x4  fu _ _ _ _ _ _ hm_q1
theorem fr_X7_openTime (fu : Nat)  (x1 : Int32) (x2 : Int32) (x3 : Int32) (x4 : Int32) (M : xM) : Fr wr_X7_openTime M Prod.snd (F_X7_openTime fu x1 x2 x3 x4  M) := fr_X7_openTime_b0 fu x1 x2 x3 x4  M xfr.rf
abbrev wr_X7_placeThen : List (Nat × Option Nat) := []
theorem fr_X7_placeThen_b63 {M0 : xM} (fu : Nat)  (x1 : Int32) (x2 : Int32) {k5 : Int32 → Int32 → xM → Option (Int32 × xM)} (hk5 : ∀ (b0 : Int32) (b1 : Int32) (M : xM), xfr wr_X7_placeThen M0 M → Fr wr_X7_placeThen M0 Prod.snd (k5 b0 b1 M)) (x3 : Int32) (x4 : Int32) (M : xM) (hm : xfr wr_X7_placeThen M0 M) : Fr wr_X7_placeThen M0 Prod.snd (F_X7_placeThen_b63 fu x1 x2 k5 x3 x4 M) := by
  unfold F_X7_placeThen_b63
  exact hk5 _ _ _ hm
theorem fr_X7_placeThen_b5 {M0 : xM} (fu : Nat)  (x1 : Int32) (x2 : Int32)  : ∀ (n : Nat) (x3 : Int32) (x4 : Int32) (M : xM), xfr wr_X7_placeThen M0 M → Fr wr_X7_placeThen M0 Prod.snd (F_X7_placeThen_b5 fu x1 x2 n x3 x4 M) := by
  intro n
  induction n with
  | zero =>
    intro x3 x4 M hm
    exact Fr.none
  | succ n ih =>
    intro x3 x4 M hm
    rw [F_X7_placeThen_b5]
    refine Fr.ite ?_ ?_
    · exact Fr.some hm
    · refine Fr.ite ?_ ?_
      · refine Fr.ite ?_ ?_
        · exact fr_X7_placeThen_b63 fu x1 x2 ih _ _ _ hm
        · exact fr_X7_placeThen_b63 fu x1 x2 ih _ _ _ hm
      · exact fr_X7_placeThen_b63 fu x1 x2 ih _ _ _ hm
theorem fr_X7_placeThen_b0 {M0 : xM} (fu : Nat)  (x1 : Int32) (x2 : Int32)   (M : xM) (hm : xfr wr_X7_placeThen M0 M) : Fr wr_X7_placeThen M0 Prod.snd (F_X7_placeThen fu x1 x2  M) := by
  unfold F_X7_placeThen
  exact fr_X7_placeThen_b5 fu x1 x2  fu _ _ _ hm
theorem fr_X7_placeThen (fu : Nat)  (x1 : Int32) (x2 : Int32) (M : xM) : Fr wr_X7_placeThen M Prod.snd (F_X7_placeThen fu x1 x2  M) := fr_X7_placeThen_b0 fu x1 x2  M xfr.rf
abbrev wr_X11_office : List (Nat × Option Nat) := [(1, some 1), (1, some 7), (1, some 8), (11, none), (12, none)]
theorem fr_X11_office_b0 {M0 : xM}  (x1 : Int32) (x2 : Int32)   (M : xM) (hm : xfr wr_X11_office M0 M) : Fr wr_X11_office M0 Prod.snd (F_X11_office x1 x2  M) := by
  unfold F_X11_office
  refine Fr.bind (fr_X0_addOffice _ _ _) (by first | decide | simp [xwsub]) hm (fun q1 hm_q1 => ?_)
  exact Fr.some hm_q1
theorem fr_X11_office  (x1 : Int32) (x2 : Int32) (M : xM) : Fr wr_X11_office M Prod.snd (F_X11_office  x1 x2  M) := fr_X11_office_b0 x1 x2  M xfr.rf
abbrev wr_X11_strap : List (Nat × Option Nat) := [(1, some 2), (1, some 8), (13, none), (14, none)]
theorem fr_X11_strap_b0 {M0 : xM}  (x1 : Int32) (x2 : Int32)   (M : xM) (hm : xfr wr_X11_strap M0 M) : Fr wr_X11_strap M0 Prod.snd (F_X11_strap x1 x2  M) := by
  unfold F_X11_strap
  refine Fr.bind (fr_X0_addStrap _ _ _) (by first | decide | simp [xwsub]) hm (fun q1 hm_q1 => ?_)
  exact Fr.some hm_q1
theorem fr_X11_strap  (x1 : Int32) (x2 : Int32) (M : xM) : Fr wr_X11_strap M Prod.snd (F_X11_strap  x1 x2  M) := fr_X11_strap_b0 x1 x2  M xfr.rf
abbrev wr_X11_unstrap : List (Nat × Option Nat) := [(1, some 2), (1, some 8)]
theorem fr_X11_unstrap_b0 {M0 : xM}     (M : xM) (hm : xfr wr_X11_unstrap M0 M) : Fr wr_X11_unstrap M0 Prod.snd (F_X11_unstrap   M) := by
  unfold F_X11_unstrap
  refine Fr.bind (fr_X0_dropStrap  _) (by first | decide | simp [xwsub]) hm (fun q1 hm_q1 => ?_)
  exact Fr.some hm_q1
theorem fr_X11_unstrap   (M : xM) : Fr wr_X11_unstrap M Prod.snd (F_X11_unstrap    M) := fr_X11_unstrap_b0   M xfr.rf
abbrev wr_X11_may : List (Nat × Option Nat) := []
theorem fr_X11_may_b45 {M0 : xM} (fu : Nat)  (x1 : Int32) (x2 : Int32)  (s0 : Int32) (M : xM) (hm : xfr wr_X11_may M0 M) : Fr wr_X11_may M0 Prod.snd (F_X11_may_b45 fu x1 x2 s0 M) := by
  unfold F_X11_may_b45
  refine Fr.ite ?_ ?_
  · exact Fr.some hm
  · exact Fr.some hm
theorem fr_X11_may_b0 {M0 : xM} (fu : Nat)  (x1 : Int32) (x2 : Int32)   (M : xM) (hm : xfr wr_X11_may M0 M) : Fr wr_X11_may M0 Prod.snd (F_X11_may fu x1 x2  M) := by
  unfold F_X11_may
  refine Fr.ite ?_ ?_
  · exact Fr.some hm
  · refine Fr.ite ?_ ?_
    · exact Fr.some hm
    · refine Fr.ite ?_ ?_
      · refine Fr.bind (fr_X0_isLet fu _ _) (by first | decide | simp [xwsub]) hm (fun q2 hm_q2 => ?_)
        exact fr_X11_may_b45 fu x1 x2  _ _ hm_q2
      · refine Fr.bind (fr_X0_isLawful fu _ _) (by first | decide | simp [xwsub]) hm (fun q1 hm_q1 => ?_)
        exact fr_X11_may_b45 fu x1 x2  _ _ hm_q1
theorem fr_X11_may (fu : Nat)  (x1 : Int32) (x2 : Int32) (M : xM) : Fr wr_X11_may M Prod.snd (F_X11_may fu x1 x2  M) := fr_X11_may_b0 fu x1 x2  M xfr.rf
abbrev wr_X11_proof : List (Nat × Option Nat) := [(1, some 8), (1, some 9), (1, some 10), (1, some 11), (1, some 12), (15, none)]
theorem fr_X11_proof_b0 {M0 : xM} (fu : Nat)  (x1 : Int32)   (M : xM) (hm : xfr wr_X11_proof M0 M) : Fr wr_X11_proof M0 Prod.snd (F_X11_proof fu x1  M) := by
  unfold F_X11_proof
  refine Fr.ite ?_ ?_
  · exact Fr.some hm
  · refine Fr.ite ?_ ?_
    · refine Fr.bind (fr_X0_beatingRow fu  _) (by first | decide | simp [xwsub]) hm (fun q2 hm_q2 => ?_)
      exact Fr.some hm_q2
    · refine Fr.bind (fr_X0_barredRow fu  _) (by first | decide | simp [xwsub]) hm (fun q1 hm_q1 => ?_)
      exact Fr.some hm_q1
theorem fr_X11_proof (fu : Nat)  (x1 : Int32) (M : xM) : Fr wr_X11_proof M Prod.snd (F_X11_proof fu x1  M) := fr_X11_proof_b0 fu x1  M xfr.rf
abbrev wr_X11_rows : List (Nat × Option Nat) := [(1, some 8), (1, some 9), (1, some 10), (1, some 11), (1, some 12), (15, none)]
theorem fr_X11_rows_b0 {M0 : xM} (fu : Nat)     (M : xM) (hm : xfr wr_X11_rows M0 M) : Fr wr_X11_rows M0 Prod.snd (F_X11_rows fu  M) := by
  unfold F_X11_rows
  refine Fr.bind (fr_X0_letRows fu  _) (by first | decide | simp [xwsub]) hm (fun q1 hm_q1 => ?_)
  exact Fr.some hm_q1
theorem fr_X11_rows (fu : Nat)   (M : xM) : Fr wr_X11_rows M Prod.snd (F_X11_rows fu   M) := fr_X11_rows_b0 fu  M xfr.rf
abbrev wr_X11_need : List (Nat × Option Nat) := [(1, some 8), (1, some 9), (1, some 10), (1, some 11), (1, some 12), (15, none)]
theorem fr_X11_need_b0 {M0 : xM} (fu : Nat)     (M : xM) (hm : xfr wr_X11_need M0 M) : Fr wr_X11_need M0 Prod.snd (F_X11_need fu  M) := by
  unfold F_X11_need
  refine Fr.bind (fr_X0_neededStraps fu  _) (by first | decide | simp [xwsub]) hm (fun q1 hm_q1 => ?_)
  exact Fr.some hm_q1
theorem fr_X11_need (fu : Nat)   (M : xM) : Fr wr_X11_need M Prod.snd (F_X11_need fu   M) := fr_X11_need_b0 fu  M xfr.rf
abbrev wr_X11_orders : List (Nat × Option Nat) := []
theorem fr_X11_orders_b0 {M0 : xM} (fu : Nat)  (x1 : Int32)   (M : xM) (hm : xfr wr_X11_orders M0 M) : Fr wr_X11_orders M0 Prod.snd (F_X11_orders fu x1  M) := by
  unfold F_X11_orders
  refine Fr.bind (fr_X0_waysToPull fu _ _) (by first | decide | simp [xwsub]) hm (fun q1 hm_q1 => ?_)
  exact Fr.some hm_q1
theorem fr_X11_orders (fu : Nat)  (x1 : Int32) (M : xM) : Fr wr_X11_orders M Prod.snd (F_X11_orders fu x1  M) := fr_X11_orders_b0 fu x1  M xfr.rf
abbrev wr_X11_feed : List (Nat × Option Nat) := [(17, none), (2, some 1)]
theorem fr_X11_feed_b0 {M0 : xM} (fu : Nat)  (x1 : Int32) (x2 : Int32) (x3 : Int32) (x4 : Int32) (x5 : Int32)   (M : xM) (hm : xfr wr_X11_feed M0 M) : Fr wr_X11_feed M0 Prod.snd (F_X11_feed fu x1 x2 x3 x4 x5  M) := by
  unfold F_X11_feed
  refine Fr.bind (fr_X9_bytesIn fu _ _) (by first | decide | simp [xwsub]) hm (fun q1 hm_q1 => ?_)
  refine Fr.bind (fr_X9_bytesIn fu _ _) (by first | decide | simp [xwsub]) hm_q1 (fun q2 hm_q2 => ?_)
  refine Fr.bind (fr_X9_bytesIn fu _ _) (by first | decide | simp [xwsub]) hm_q2 (fun q3 hm_q3 => ?_)
  refine Fr.bind (fr_X9_bytesIn fu _ _) (by first | decide | simp [xwsub]) hm_q3 (fun q4 hm_q4 => ?_)
  refine Fr.bind (fr_X9_bytesIn fu _ _) (by first | decide | simp [xwsub]) hm_q4 (fun q5 hm_q5 => ?_)
  refine Fr.ite ?_ ?_
  · refine Fr.bind (fr_X9_append fu _ _) (by first | decide | simp [xwsub]) hm_q5 (fun q6 hm_q6 => ?_)
    refine Fr.bind (fr_X9_append fu _ _) (by first | decide | simp [xwsub]) hm_q6 (fun q7 hm_q7 => ?_)
    refine Fr.bind (fr_X9_append fu _ _) (by first | decide | simp [xwsub]) hm_q7 (fun q8 hm_q8 => ?_)
    refine Fr.bind (fr_X9_append fu _ _) (by first | decide | simp [xwsub]) hm_q8 (fun q9 hm_q9 => ?_)
    refine Fr.bind (fr_X9_append fu _ _) (by first | decide | simp [xwsub]) hm_q9 (fun q10 hm_q10 => ?_)
    exact Fr.some hm_q10
  · exact Fr.some hm_q5
theorem fr_X11_feed (fu : Nat)  (x1 : Int32) (x2 : Int32) (x3 : Int32) (x4 : Int32) (x5 : Int32) (M : xM) : Fr wr_X11_feed M Prod.snd (F_X11_feed fu x1 x2 x3 x4 x5  M) := fr_X11_feed_b0 fu x1 x2 x3 x4 x5  M xfr.rf
abbrev wr_X11_end : List (Nat × Option Nat) := [(2, some 1)]
theorem fr_X11_end_b0 {M0 : xM}  (x1 : Int32)   (M : xM) (hm : xfr wr_X11_end M0 M) : Fr wr_X11_end M0 Prod.snd (F_X11_end x1  M) := by
  unfold F_X11_end
  refine Fr.ite ?_ ?_
  · exact Fr.some hm
  · exact Fr.some (hm.setf (by first | decide | simp [xin]))
theorem fr_X11_end  (x1 : Int32) (M : xM) : Fr wr_X11_end M Prod.snd (F_X11_end  x1  M) := fr_X11_end_b0 x1  M xfr.rf
abbrev wr_X11_fault : List (Nat × Option Nat) := [(20, none), (4, some 0), (4, some 3), (4, some 4)]
theorem fr_X11_fault_b0 {M0 : xM} (fu : Nat)     (M : xM) (hm : xfr wr_X11_fault M0 M) : Fr wr_X11_fault M0 Prod.snd (F_X11_fault fu  M) := by
  unfold F_X11_fault
  refine Fr.bind (fr_X4_faultIn fu  _) (by first | decide | simp [xwsub]) hm (fun q1 hm_q1 => ?_)
  exact Fr.some hm_q1
theorem fr_X11_fault (fu : Nat)   (M : xM) : Fr wr_X11_fault M Prod.snd (F_X11_fault fu   M) := fr_X11_fault_b0 fu  M xfr.rf
abbrev wr_X11_law : List (Nat × Option Nat) := [(18, none), (19, none), (2, some 1), (20, none), (3, some 0), (4, some 0), (4, some 3), (4, some 4)]
theorem fr_X11_law_b0 {M0 : xM} (fu : Nat)     (M : xM) (hm : xfr wr_X11_law M0 M) : Fr wr_X11_law M0 Prod.snd (F_X11_law fu  M) := by
  unfold F_X11_law
  refine Fr.bind (fr_X4_add fu  _) (by first | decide | simp [xwsub]) hm (fun q1 hm_q1 => ?_)
  exact Fr.some hm_q1
theorem fr_X11_law (fu : Nat)   (M : xM) : Fr wr_X11_law M Prod.snd (F_X11_law fu   M) := fr_X11_law_b0 fu  M xfr.rf
abbrev wr_X11_settleVoters : List (Nat × Option Nat) := [(20, none), (21, none), (23, none), (4, some 0), (4, some 3), (4, some 4)]
theorem fr_X11_settleVoters_b0 {M0 : xM} (fu : Nat)  (x1 : Int32)   (M : xM) (hm : xfr wr_X11_settleVoters M0 M) : Fr wr_X11_settleVoters M0 id (F_X11_settleVoters fu x1  M) := by
  unfold F_X11_settleVoters
  refine Fr.ite ?_ ?_
  · exact Fr.somev hm
  · refine Fr.bind (fr_X4_votersBy fu _ _ _ _ _) (by first | decide | simp [xwsub]) hm (fun q1 hm_q1 => ?_)
    refine Fr.bind (fr_X1_put _ _ _ _ _) (by first | decide | simp [xwsub]) hm_q1 (fun q2 hm_q2 => ?_)
    exact Fr.somev hm_q2
theorem fr_X11_settleVoters (fu : Nat)  (x1 : Int32) (M : xM) : Fr wr_X11_settleVoters M id (F_X11_settleVoters fu x1  M) := fr_X11_settleVoters_b0 fu x1  M xfr.rf
abbrev wr_X11_use : List (Nat × Option Nat) := [(20, none), (21, none), (23, none), (3, some 1), (4, some 0), (4, some 3), (4, some 4)]
theorem fr_X11_use_b28 {M0 : xM} (fu : Nat)  (x1 : Int32)  : ∀ (n : Nat) (x2 : Int32) (M : xM), xfr wr_X11_use M0 M → Fr wr_X11_use M0 Prod.snd (F_X11_use_b28 fu x1 n x2 M) := by
  intro n
  induction n with
  | zero =>
    intro x2 M hm
    exact Fr.none
  | succ n ih =>
    intro x2 M hm
    rw [F_X11_use_b28]
    refine Fr.ite ?_ ?_
    · exact Fr.some hm
    · refine Fr.bind (fr_X11_settleVoters fu _ _) (by first | decide | simp [xwsub]) hm (fun q1 hm_q1 => ?_)
      exact ih _ _ hm_q1
theorem fr_X11_use_b18 {M0 : xM} (fu : Nat)  (x1 : Int32)   (M : xM) (hm : xfr wr_X11_use M0 M) : Fr wr_X11_use M0 Prod.snd (F_X11_use_b18 fu x1  M) := by
  unfold F_X11_use_b18
  exact fr_X11_use_b28 fu x1  fu _ _ (hm.setf (by first | decide | simp [xin]))
theorem fr_X11_use_b0 {M0 : xM} (fu : Nat)  (x1 : Int32)   (M : xM) (hm : xfr wr_X11_use M0 M) : Fr wr_X11_use M0 Prod.snd (F_X11_use fu x1  M) := by
  unfold F_X11_use
  refine Fr.ite ?_ ?_
  · exact fr_X11_use_b18 fu x1   _ hm
  · refine Fr.ite ?_ ?_
    · exact Fr.some hm
    · exact fr_X11_use_b18 fu x1   _ hm
theorem fr_X11_use (fu : Nat)  (x1 : Int32) (M : xM) : Fr wr_X11_use M Prod.snd (F_X11_use fu x1  M) := fr_X11_use_b0 fu x1  M xfr.rf
abbrev wr_X11_machine : List (Nat × Option Nat) := [(20, none), (21, none), (22, none), (23, none), (24, none), (25, none), (4, some 0), (4, some 3), (4, some 4), (5, some 1)]
theorem fr_X11_machine_b0 {M0 : xM} (fu : Nat)  (x1 : Int32) (x2 : Int32) (x3 : Int32) (x4 : Int32) (x5 : Int32)   (M : xM) (hm : xfr wr_X11_machine M0 M) : Fr wr_X11_machine M0 Prod.snd (F_X11_machine fu x1 x2 x3 x4 x5  M) := by
  unfold F_X11_machine
  refine Fr.bind (fr_X5_add _ _ _ _ _ _) (by first | decide | simp [xwsub]) hm (fun q1 hm_q1 => ?_)
  refine Fr.bind (fr_X11_settleVoters fu _ _) (by first | decide | simp [xwsub]) hm_q1 (fun q2 hm_q2 => ?_)
  exact Fr.some hm_q2
theorem fr_X11_machine (fu : Nat)  (x1 : Int32) (x2 : Int32) (x3 : Int32) (x4 : Int32) (x5 : Int32) (M : xM) : Fr wr_X11_machine M Prod.snd (F_X11_machine fu x1 x2 x3 x4 x5  M) := fr_X11_machine_b0 fu x1 x2 x3 x4 x5  M xfr.rf
abbrev wr_X11_agree : List (Nat × Option Nat) := [(20, none), (21, none), (4, some 0), (4, some 3), (4, some 4)]
theorem fr_X11_agree_b0 {M0 : xM} (fu : Nat)  (x1 : Int32)   (M : xM) (hm : xfr wr_X11_agree M0 M) : Fr wr_X11_agree M0 Prod.snd (F_X11_agree fu x1  M) := by
  unfold F_X11_agree
  refine Fr.ite ?_ ?_
  · exact Fr.some hm
  · refine Fr.bind (fr_X4_agreeing fu _ _ _ _) (by first | decide | simp [xwsub]) hm (fun q1 hm_q1 => ?_)
    exact Fr.some hm_q1
theorem fr_X11_agree (fu : Nat)  (x1 : Int32) (M : xM) : Fr wr_X11_agree M Prod.snd (F_X11_agree fu x1  M) := fr_X11_agree_b0 fu x1  M xfr.rf
abbrev wr_X11_show : List (Nat × Option Nat) := [(26, none)]
theorem fr_X11_show_b0 {M0 : xM}  (x1 : Int32) (x2 : Int32) (x3 : Int32)   (M : xM) (hm : xfr wr_X11_show M0 M) : Fr wr_X11_show M0 Prod.snd (F_X11_show x1 x2 x3  M) := by
  unfold F_X11_show
  refine Fr.bind (fr_X5_setShown _ _ _ _) (by first | decide | simp [xwsub]) hm (fun q1 hm_q1 => ?_)
  exact Fr.ite (Fr.some hm_q1) Fr.none
theorem fr_X11_show  (x1 : Int32) (x2 : Int32) (x3 : Int32) (M : xM) : Fr wr_X11_show M Prod.snd (F_X11_show  x1 x2 x3  M) := fr_X11_show_b0 x1 x2 x3  M xfr.rf
abbrev wr_X11_trouble : List (Nat × Option Nat) := [(27, none), (28, none), (29, none), (30, none)]
theorem fr_X11_trouble_b0 {M0 : xM}  (x1 : Int32) (x2 : Int32) (x3 : Int32) (x4 : Int32)   (M : xM) (hm : xfr wr_X11_trouble M0 M) : Fr wr_X11_trouble M0 Prod.snd (F_X11_trouble x1 x2 x3 x4  M) := by
  unfold F_X11_trouble
  refine Fr.bind (fr_X5_addFault _ _ _ _ _) (by first | decide | simp [xwsub]) hm (fun q1 hm_q1 => ?_)
  exact Fr.some hm_q1
theorem fr_X11_trouble  (x1 : Int32) (x2 : Int32) (x3 : Int32) (x4 : Int32) (M : xM) : Fr wr_X11_trouble M Prod.snd (F_X11_trouble  x1 x2 x3 x4  M) := fr_X11_trouble_b0 x1 x2 x3 x4  M xfr.rf
abbrev wr_X11_fitting : List (Nat × Option Nat) := [(33, none), (34, none), (35, none), (36, none), (37, none), (38, none), (6, some 8), (6, some 9)]
theorem fr_X11_fitting_b0 {M0 : xM} (fu : Nat)  (x1 : Int32) (x2 : Int32)   (M : xM) (hm : xfr wr_X11_fitting M0 M) : Fr wr_X11_fitting M0 Prod.snd (F_X11_fitting fu x1 x2  M) := by
  unfold F_X11_fitting
  refine Fr.ite ?_ ?_
  · exact Fr.some hm
  · refine Fr.ite ?_ ?_
    · refine Fr.bind (fr_X2_howMany fu _ _) (by first | decide | simp [xwsub]) hm (fun q2 hm_q2 => ?_)
      exact Fr.some hm_q2
    · refine Fr.bind (fr_X2_numbered fu _ _ _) (by first | decide | simp [xwsub]) hm (fun q1 hm_q1 => ?_)
      exact Fr.some hm_q1
theorem fr_X11_fitting (fu : Nat)  (x1 : Int32) (x2 : Int32) (M : xM) : Fr wr_X11_fitting M Prod.snd (F_X11_fitting fu x1 x2  M) := fr_X11_fitting_b0 fu x1 x2  M xfr.rf
abbrev wr_X11_sets : List (Nat × Option Nat) := [(33, none), (34, none), (35, none), (36, none), (37, none), (38, none), (6, some 8), (6, some 9)]
theorem fr_X11_sets_b0 {M0 : xM} (fu : Nat)  (x1 : Int32) (x2 : Int32)   (M : xM) (hm : xfr wr_X11_sets M0 M) : Fr wr_X11_sets M0 Prod.snd (F_X11_sets fu x1 x2  M) := by
  unfold F_X11_sets
  refine Fr.ite ?_ ?_
  · exact Fr.some hm
  · refine Fr.ite ?_ ?_
    · exact Fr.some hm
    · refine Fr.ite ?_ ?_
      · refine Fr.bind (fr_X2_fewest fu _ _) (by first | decide | simp [xwsub]) hm (fun q3 hm_q3 => ?_)
        exact Fr.some hm_q3
      · refine Fr.ite ?_ ?_
        · refine Fr.bind (fr_X2_inAll fu _ _) (by first | decide | simp [xwsub]) hm (fun q2 hm_q2 => ?_)
          exact Fr.some hm_q2
        · refine Fr.bind (fr_X2_inSome fu _ _) (by first | decide | simp [xwsub]) hm (fun q1 hm_q1 => ?_)
          exact Fr.some hm_q1
theorem fr_X11_sets (fu : Nat)  (x1 : Int32) (x2 : Int32) (M : xM) : Fr wr_X11_sets M Prod.snd (F_X11_sets fu x1 x2  M) := fr_X11_sets_b0 fu x1 x2  M xfr.rf
abbrev wr_X11_span : List (Nat × Option Nat) := [(33, none), (34, none), (35, none), (36, none), (37, none), (38, none), (6, some 8), (6, some 9)]
theorem fr_X11_span_b0 {M0 : xM} (fu : Nat)  (x1 : Int32) (x2 : Int32) (x3 : Int32)   (M : xM) (hm : xfr wr_X11_span M0 M) : Fr wr_X11_span M0 Prod.snd (F_X11_span fu x1 x2 x3  M) := by
  unfold F_X11_span
  refine Fr.ite ?_ ?_
  · exact Fr.some hm
  · refine Fr.bind (fr_X0_officeOf fu _ _) (by first | decide | simp [xwsub]) hm (fun q1 hm_q1 => ?_)
    refine Fr.ite ?_ ?_
    · exact Fr.some hm_q1
    · refine Fr.ite ?_ ?_
      · exact Fr.some hm_q1
      · refine Fr.bind (fr_X8_pullsAt fu _ _ _ _) (by first | decide | simp [xwsub]) hm_q1 (fun q2 hm_q2 => ?_)
        exact Fr.some hm_q2
theorem fr_X11_span (fu : Nat)  (x1 : Int32) (x2 : Int32) (x3 : Int32) (M : xM) : Fr wr_X11_span M Prod.snd (F_X11_span fu x1 x2 x3  M) := fr_X11_span_b0 fu x1 x2 x3  M xfr.rf
abbrev wr_X11_open : List (Nat × Option Nat) := [(24, none), (33, none), (34, none), (35, none), (36, none), (37, none), (38, none), (6, some 8), (6, some 9)]
theorem fr_X11_open_b30 {M0 : xM} (fu : Nat)  (x1 : Int32) (x2 : Int32)   (M : xM) (hm : xfr wr_X11_open M0 M) : Fr wr_X11_open M0 Prod.snd (F_X11_open_b30 fu x1 x2  M) := by
  unfold F_X11_open_b30
  refine Fr.bind (fr_X1_put _ _ _ _ _) (by first | decide | simp [xwsub]) hm (fun q1 hm_q1 => ?_)
  exact Fr.some hm_q1
theorem fr_X11_open_b0 {M0 : xM} (fu : Nat)  (x1 : Int32) (x2 : Int32)   (M : xM) (hm : xfr wr_X11_open M0 M) : Fr wr_X11_open M0 Prod.snd (F_X11_open fu x1 x2  M) := by
  unfold F_X11_open
  refine Fr.ite ?_ ?_
  · exact Fr.some hm
  · refine Fr.ite ?_ ?_
    · exact fr_X11_open_b30 fu x1 x2   _ hm
    · refine Fr.bind (fr_X2_lay fu _ _ _) (by first | decide | simp [xwsub]) hm (fun q1 hm_q1 => ?_)
      refine Fr.ite ?_ ?_
      · exact Fr.some hm_q1
      · exact fr_X11_open_b30 fu x1 x2   _ hm_q1
theorem fr_X11_open (fu : Nat)  (x1 : Int32) (x2 : Int32) (M : xM) : Fr wr_X11_open M Prod.snd (F_X11_open fu x1 x2  M) := fr_X11_open_b0 fu x1 x2  M xfr.rf
abbrev wr_X11_total : List (Nat × Option Nat) := [(33, none), (34, none), (35, none), (36, none), (37, none), (38, none), (6, some 8), (6, some 9)]
theorem fr_X11_total_b0 {M0 : xM} (fu : Nat)  (x1 : Int32) (x2 : Int32)   (M : xM) (hm : xfr wr_X11_total M0 M) : Fr wr_X11_total M0 Prod.snd (F_X11_total fu x1 x2  M) := by
  unfold F_X11_total
  refine Fr.bind (fr_X0_officeOf fu _ _) (by first | decide | simp [xwsub]) hm (fun q1 hm_q1 => ?_)
  refine Fr.ite ?_ ?_
  · exact Fr.some hm_q1
  · refine Fr.ite ?_ ?_
    · exact Fr.some hm_q1
    · refine Fr.bind (fr_X8_pullsOverAll fu _ _ _) (by first | decide | simp [xwsub]) hm_q1 (fun q2 hm_q2 => ?_)
      exact Fr.some hm_q2
theorem fr_X11_total (fu : Nat)  (x1 : Int32) (x2 : Int32) (M : xM) : Fr wr_X11_total M Prod.snd (F_X11_total fu x1 x2  M) := fr_X11_total_b0 fu x1 x2  M xfr.rf
abbrev wr_X11_ahead : List (Nat × Option Nat) := [(33, none), (34, none), (35, none), (36, none), (37, none), (38, none), (39, none), (6, some 8), (6, some 9)]
theorem fr_X11_ahead_b0 {M0 : xM} (fu : Nat)  (x1 : Int32) (x2 : Int32)   (M : xM) (hm : xfr wr_X11_ahead M0 M) : Fr wr_X11_ahead M0 Prod.snd (F_X11_ahead fu x1 x2  M) := by
  unfold F_X11_ahead
  refine Fr.bind (fr_X8_leastLead fu _ _ _) (by first | decide | simp [xwsub]) hm (fun q1 hm_q1 => ?_)
  exact Fr.some hm_q1
theorem fr_X11_ahead (fu : Nat)  (x1 : Int32) (x2 : Int32) (M : xM) : Fr wr_X11_ahead M Prod.snd (F_X11_ahead fu x1 x2  M) := fr_X11_ahead_b0 fu x1 x2  M xfr.rf
abbrev wr_X11_wins : List (Nat × Option Nat) := [(33, none), (34, none), (35, none), (36, none), (37, none), (38, none), (39, none), (6, some 8), (6, some 9)]
theorem fr_X11_wins_b0 {M0 : xM} (fu : Nat)  (x1 : Int32)   (M : xM) (hm : xfr wr_X11_wins M0 M) : Fr wr_X11_wins M0 Prod.snd (F_X11_wins fu x1  M) := by
  unfold F_X11_wins
  refine Fr.ite ?_ ?_
  · exact Fr.some hm
  · refine Fr.bind (fr_X8_winner fu _ _) (by first | decide | simp [xwsub]) hm (fun q1 hm_q1 => ?_)
    exact Fr.some hm_q1
theorem fr_X11_wins (fu : Nat)  (x1 : Int32) (M : xM) : Fr wr_X11_wins M Prod.snd (F_X11_wins fu x1  M) := fr_X11_wins_b0 fu x1  M xfr.rf
abbrev wr_X11_cost : List (Nat × Option Nat) := [(25, none)]
theorem fr_X11_cost_b0 {M0 : xM}  (x1 : Int32) (x2 : Int32)   (M : xM) (hm : xfr wr_X11_cost M0 M) : Fr wr_X11_cost M0 Prod.snd (F_X11_cost x1 x2  M) := by
  unfold F_X11_cost
  refine Fr.ite ?_ ?_
  · exact Fr.some hm
  · refine Fr.ite ?_ ?_
    · exact Fr.some hm
    · refine Fr.bind (fr_X1_put _ _ _ _ _) (by first | decide | simp [xwsub]) hm (fun q1 hm_q1 => ?_)
      exact Fr.some hm_q1
theorem fr_X11_cost  (x1 : Int32) (x2 : Int32) (M : xM) : Fr wr_X11_cost M Prod.snd (F_X11_cost  x1 x2  M) := fr_X11_cost_b0 x1 x2  M xfr.rf
abbrev wr_X11_till : List (Nat × Option Nat) := [(33, none), (34, none), (35, none), (36, none), (37, none), (38, none), (39, none), (40, none), (6, some 8), (6, some 9)]
theorem fr_X11_till_b41 {M0 : xM} (fu : Nat)  (x1 : Int32) (x2 : Int32)  (x3 : Int32) (M : xM) (hm : xfr wr_X11_till M0 M) : Fr wr_X11_till M0 Prod.snd (F_X11_till_b41 fu x1 x2 x3 M) := by
  unfold F_X11_till_b41
  exact Fr.some hm
theorem fr_X11_till_b0 {M0 : xM} (fu : Nat)  (x1 : Int32) (x2 : Int32)   (M : xM) (hm : xfr wr_X11_till M0 M) : Fr wr_X11_till M0 Prod.snd (F_X11_till fu x1 x2  M) := by
  unfold F_X11_till
  refine Fr.bind (fr_X0_officeOf fu _ _) (by first | decide | simp [xwsub]) hm (fun q1 hm_q1 => ?_)
  refine Fr.ite ?_ ?_
  · exact Fr.some hm_q1
  · refine Fr.ite ?_ ?_
    · exact Fr.some hm_q1
    · refine Fr.bind (fr_X8_cheapestOpening fu _ _) (by first | decide | simp [xwsub]) hm_q1 (fun q2 hm_q2 => ?_)
      refine Fr.ite ?_ ?_
      · exact fr_X11_till_b41 fu x1 x2  _ _ hm_q2
      · refine Fr.ite ?_ ?_
        · exact fr_X11_till_b41 fu x1 x2  _ _ hm_q2
        · refine Fr.bind (fr_X8_costOf fu _ _) (by first | decide | simp [xwsub]) hm_q2 (fun q3 hm_q3 => ?_)
          exact Fr.some hm_q3
theorem fr_X11_till (fu : Nat)  (x1 : Int32) (x2 : Int32) (M : xM) : Fr wr_X11_till M Prod.snd (F_X11_till fu x1 x2  M) := fr_X11_till_b0 fu x1 x2  M xfr.rf
abbrev wr_X11_test : List (Nat × Option Nat) := [(43, none), (44, none), (8, some 2)]
theorem fr_X11_test_b0 {M0 : xM}  (x1 : Int32) (x2 : Int32)   (M : xM) (hm : xfr wr_X11_test M0 M) : Fr wr_X11_test M0 Prod.snd (F_X11_test x1 x2  M) := by
  unfold F_X11_test
  refine Fr.bind (fr_X10_add _ _ _) (by first | decide | simp [xwsub]) hm (fun q1 hm_q1 => ?_)
  exact Fr.some hm_q1
theorem fr_X11_test  (x1 : Int32) (x2 : Int32) (M : xM) : Fr wr_X11_test M Prod.snd (F_X11_test  x1 x2  M) := fr_X11_test_b0 x1 x2  M xfr.rf
abbrev wr_X11_sees : List (Nat × Option Nat) := []
theorem fr_X11_sees_b0 {M0 : xM} (fu : Nat)  (x1 : Int32) (x2 : Int32)   (M : xM) (hm : xfr wr_X11_sees M0 M) : Fr wr_X11_sees M0 Prod.snd (F_X11_sees fu x1 x2  M) := by
  unfold F_X11_sees
  refine Fr.ite ?_ ?_
  · exact Fr.some hm
  · refine Fr.ite ?_ ?_
    · exact Fr.some hm
    · refine Fr.bind (fr_X10_seenBy fu _ _ _) (by first | decide | simp [xwsub]) hm (fun q1 hm_q1 => ?_)
      exact Fr.some hm_q1
theorem fr_X11_sees (fu : Nat)  (x1 : Int32) (x2 : Int32) (M : xM) : Fr wr_X11_sees M Prod.snd (F_X11_sees fu x1 x2  M) := fr_X11_sees_b0 fu x1 x2  M xfr.rf
abbrev wr_X11_cover : List (Nat × Option Nat) := [(45, none)]
theorem fr_X11_cover_b0 {M0 : xM} (fu : Nat)  (x1 : Int32)   (M : xM) (hm : xfr wr_X11_cover M0 M) : Fr wr_X11_cover M0 Prod.snd (F_X11_cover fu x1  M) := by
  unfold F_X11_cover
  refine Fr.ite ?_ ?_
  · exact Fr.some hm
  · refine Fr.bind (fr_X10_fewestSeeingAll fu _ _) (by first | decide | simp [xwsub]) hm (fun q1 hm_q1 => ?_)
    exact Fr.some hm_q1
theorem fr_X11_cover (fu : Nat)  (x1 : Int32) (M : xM) : Fr wr_X11_cover M Prod.snd (F_X11_cover fu x1  M) := fr_X11_cover_b0 fu x1  M xfr.rf
abbrev wr_X11_name : List (Nat × Option Nat) := [(16, none)]
theorem fr_X11_name_b0 {M0 : xM} (fu : Nat)  (x1 : Int32) (x2 : Int64) (x4 : Int32) (x5 : Int32)   (M : xM) (hm : xfr wr_X11_name M0 M) : Fr wr_X11_name M0 Prod.snd (F_X11_name fu x1 x2 x4 x5  M) := by
  unfold F_X11_name
  refine Fr.ite ?_ ?_
  · exact Fr.some hm
  · refine Fr.ite ?_ ?_
    · exact Fr.some hm
    · refine Fr.bind (fr_X0_shuffle fu _ _ _) (by first | decide | simp [xwsub]) hm (fun q1 hm_q1 => ?_)
      refine Fr.ite ?_ ?_
      · exact Fr.some hm_q1
      · exact Fr.some hm_q1
theorem fr_X11_name (fu : Nat)  (x1 : Int32) (x2 : Int64) (x4 : Int32) (x5 : Int32) (M : xM) : Fr wr_X11_name M Prod.snd (F_X11_name fu x1 x2 x4 x5  M) := fr_X11_name_b0 fu x1 x2 x4 x5  M xfr.rf
abbrev wr_X11_first : List (Nat × Option Nat) := [(16, none)]
theorem fr_X11_first_b73 {M0 : xM} (fu : Nat)  (x1 : Int32) (x2 : Int64) (x4 : Int32) {k47 : Int32 → Int32 → Int32 → xM → Option (Int32 × xM)} (hk47 : ∀ (b0 : Int32) (b1 : Int32) (b2 : Int32) (M : xM), xfr wr_X11_first M0 M → Fr wr_X11_first M0 Prod.snd (k47 b0 b1 b2 M)) (x6 : Int32) (x7 : Int32) (x8 : Int32) (M : xM) (hm : xfr wr_X11_first M0 M) : Fr wr_X11_first M0 Prod.snd (F_X11_first_b73 fu x1 x2 x4 k47 x6 x7 x8 M) := by
  unfold F_X11_first_b73
  exact hk47 _ _ _ _ hm
theorem fr_X11_first_b47 {M0 : xM} (fu : Nat)  (x1 : Int32) (x2 : Int64) (x4 : Int32)  : ∀ (n : Nat) (x6 : Int32) (x7 : Int32) (x8 : Int32) (M : xM), xfr wr_X11_first M0 M → Fr wr_X11_first M0 Prod.snd (F_X11_first_b47 fu x1 x2 x4 n x6 x7 x8 M) := by
  intro n
  induction n with
  | zero =>
    intro x6 x7 x8 M hm
    exact Fr.none
  | succ n ih =>
    intro x6 x7 x8 M hm
    rw [F_X11_first_b47]
    refine Fr.ite ?_ ?_
    · exact Fr.some hm
    · refine Fr.ite ?_ ?_
      · exact fr_X11_first_b73 fu x1 x2 x4 ih _ _ _ _ hm
      · exact fr_X11_first_b73 fu x1 x2 x4 ih _ _ _ _ hm
theorem fr_X11_first_b0 {M0 : xM} (fu : Nat)  (x1 : Int32) (x2 : Int64) (x4 : Int32)   (M : xM) (hm : xfr wr_X11_first M0 M) : Fr wr_X11_first M0 Prod.snd (F_X11_first fu x1 x2 x4  M) := by
  unfold F_X11_first
  refine Fr.bind (fr_X0_officeOf fu _ _) (by first | decide | simp [xwsub]) hm (fun q1 hm_q1 => ?_)
  refine Fr.ite ?_ ?_
  · exact Fr.some hm_q1
  · refine Fr.ite ?_ ?_
    · exact Fr.some hm_q1
    · refine Fr.bind (fr_X0_shuffle fu _ _ _) (by first | decide | simp [xwsub]) hm_q1 (fun q2 hm_q2 => ?_)
      exact fr_X11_first_b47 fu x1 x2 x4  fu _ _ _ _ hm_q2
theorem fr_X11_first (fu : Nat)  (x1 : Int32) (x2 : Int64) (x4 : Int32) (M : xM) : Fr wr_X11_first M Prod.snd (F_X11_first fu x1 x2 x4  M) := fr_X11_first_b0 fu x1 x2 x4  M xfr.rf
abbrev wr_X11_known : List (Nat × Option Nat) := [(2, some 1), (46, none), (47, none), (50, none), (51, none), (9, some 0)]
theorem fr_X11_known_b0 {M0 : xM} (fu : Nat)     (M : xM) (hm : xfr wr_X11_known M0 M) : Fr wr_X11_known M0 Prod.snd (F_X11_known fu  M) := by
  unfold F_X11_known
  refine Fr.bind (fr_X6_addName fu  _) (by first | decide | simp [xwsub]) hm (fun q1 hm_q1 => ?_)
  exact Fr.some hm_q1
theorem fr_X11_known (fu : Nat)   (M : xM) : Fr wr_X11_known M Prod.snd (F_X11_known fu   M) := fr_X11_known_b0 fu  M xfr.rf
abbrev wr_X11_read : List (Nat × Option Nat) := [(2, some 1), (48, none), (49, none), (50, none), (51, none)]
theorem fr_X11_read_b0 {M0 : xM} (fu : Nat)  (x1 : Int32) (x2 : Int32)   (M : xM) (hm : xfr wr_X11_read M0 M) : Fr wr_X11_read M0 Prod.snd (F_X11_read fu x1 x2  M) := by
  unfold F_X11_read
  refine Fr.bind (fr_X6_setReading fu _ _ _) (by first | decide | simp [xwsub]) hm (fun q1 hm_q1 => ?_)
  exact Fr.ite (Fr.some hm_q1) Fr.none
theorem fr_X11_read (fu : Nat)  (x1 : Int32) (x2 : Int32) (M : xM) : Fr wr_X11_read M Prod.snd (F_X11_read fu x1 x2  M) := fr_X11_read_b0 fu x1 x2  M xfr.rf
abbrev wr_X11_limit : List (Nat × Option Nat) := [(9, some 1)]
theorem fr_X11_limit_b0 {M0 : xM}  (x1 : Int32)   (M : xM) (hm : xfr wr_X11_limit M0 M) : Fr wr_X11_limit M0 Prod.snd (F_X11_limit x1  M) := by
  unfold F_X11_limit
  refine Fr.ite ?_ ?_
  · exact Fr.some hm
  · exact Fr.some (hm.setf (by first | decide | simp [xin]))
theorem fr_X11_limit  (x1 : Int32) (M : xM) : Fr wr_X11_limit M Prod.snd (F_X11_limit  x1  M) := fr_X11_limit_b0 x1  M xfr.rf
abbrev wr_X11_goes : List (Nat × Option Nat) := []
theorem fr_X11_goes_b0 {M0 : xM} (fu : Nat)  (x1 : Int32) (x2 : Int32)   (M : xM) (hm : xfr wr_X11_goes M0 M) : Fr wr_X11_goes M0 Prod.snd (F_X11_goes fu x1 x2  M) := by
  unfold F_X11_goes
  refine Fr.ite ?_ ?_
  · exact Fr.some hm
  · refine Fr.bind (fr_X6_nearest fu _ _ _) (by first | decide | simp [xwsub]) hm (fun q1 hm_q1 => ?_)
    exact Fr.some hm_q1
theorem fr_X11_goes (fu : Nat)  (x1 : Int32) (x2 : Int32) (M : xM) : Fr wr_X11_goes M Prod.snd (F_X11_goes fu x1 x2  M) := fr_X11_goes_b0 fu x1 x2  M xfr.rf
abbrev wr_X11_agrees : List (Nat × Option Nat) := []
theorem fr_X11_agrees_b0 {M0 : xM} (fu : Nat)  (x1 : Int32)   (M : xM) (hm : xfr wr_X11_agrees M0 M) : Fr wr_X11_agrees M0 Prod.snd (F_X11_agrees fu x1  M) := by
  unfold F_X11_agrees
  refine Fr.bind (fr_X6_agreedName fu _ _) (by first | decide | simp [xwsub]) hm (fun q1 hm_q1 => ?_)
  exact Fr.some hm_q1
theorem fr_X11_agrees (fu : Nat)  (x1 : Int32) (M : xM) : Fr wr_X11_agrees M Prod.snd (F_X11_agrees fu x1  M) := fr_X11_agrees_b0 fu x1  M xfr.rf
abbrev wr_X11_papers : List (Nat × Option Nat) := []
theorem fr_X11_papers_b0 {M0 : xM} (fu : Nat)  (x1 : Int32)   (M : xM) (hm : xfr wr_X11_papers M0 M) : Fr wr_X11_papers M0 Prod.snd (F_X11_papers fu x1  M) := by
  unfold F_X11_papers
  refine Fr.ite ?_ ?_
  · exact Fr.some hm
  · refine Fr.bind (fr_X6_howMany fu _ _) (by first | decide | simp [xwsub]) hm (fun q1 hm_q1 => ?_)
    exact Fr.some hm_q1
theorem fr_X11_papers (fu : Nat)  (x1 : Int32) (M : xM) : Fr wr_X11_papers M Prod.snd (F_X11_papers fu x1  M) := fr_X11_papers_b0 fu x1  M xfr.rf
abbrev wr_X11_writtenFor : List (Nat × Option Nat) := []
theorem fr_X11_writtenFor_b0 {M0 : xM} (fu : Nat)  (x1 : Int32) (x2 : Int32)   (M : xM) (hm : xfr wr_X11_writtenFor M0 M) : Fr wr_X11_writtenFor M0 Prod.snd (F_X11_writtenFor fu x1 x2  M) := by
  unfold F_X11_writtenFor
  refine Fr.ite ?_ ?_
  · exact Fr.some hm
  · refine Fr.ite ?_ ?_
    · exact Fr.some hm
    · refine Fr.ite ?_ ?_
      · refine Fr.bind (fr_X6_sureFor fu _ _) (by first | decide | simp [xwsub]) hm (fun q2 hm_q2 => ?_)
        exact Fr.some hm_q2
      · refine Fr.bind (fr_X6_mostFor fu _ _) (by first | decide | simp [xwsub]) hm (fun q1 hm_q1 => ?_)
        exact Fr.some hm_q1
theorem fr_X11_writtenFor (fu : Nat)  (x1 : Int32) (x2 : Int32) (M : xM) : Fr wr_X11_writtenFor M Prod.snd (F_X11_writtenFor fu x1 x2  M) := fr_X11_writtenFor_b0 fu x1 x2  M xfr.rf
abbrev wr_X11_elected : List (Nat × Option Nat) := []
theorem fr_X11_elected_b0 {M0 : xM} (fu : Nat)     (M : xM) (hm : xfr wr_X11_elected M0 M) : Fr wr_X11_elected M0 Prod.snd (F_X11_elected fu  M) := by
  unfold F_X11_elected
  refine Fr.bind (fr_X6_sureWinner fu  _) (by first | decide | simp [xwsub]) hm (fun q1 hm_q1 => ?_)
  exact Fr.some hm_q1
theorem fr_X11_elected (fu : Nat)   (M : xM) : Fr wr_X11_elected M Prod.snd (F_X11_elected fu   M) := fr_X11_elected_b0 fu  M xfr.rf
abbrev wr_X11_absent : List (Nat × Option Nat) := [(41, none), (42, none)]
theorem fr_X11_absent_b0 {M0 : xM}  (x1 : Int32) (x2 : Int32) (x3 : Int32)   (M : xM) (hm : xfr wr_X11_absent M0 M) : Fr wr_X11_absent M0 Prod.snd (F_X11_absent x1 x2 x3  M) := by
  unfold F_X11_absent
  refine Fr.bind (fr_X8_setAbsent _ _ _ _) (by first | decide | simp [xwsub]) hm (fun q1 hm_q1 => ?_)
  exact Fr.ite (Fr.some hm_q1) Fr.none
theorem fr_X11_absent  (x1 : Int32) (x2 : Int32) (x3 : Int32) (M : xM) : Fr wr_X11_absent M Prod.snd (F_X11_absent  x1 x2 x3  M) := fr_X11_absent_b0 x1 x2 x3  M xfr.rf
abbrev wr_X11_joinedAhead : List (Nat × Option Nat) := [(33, none), (34, none), (35, none), (36, none), (37, none), (38, none), (39, none), (6, some 8), (6, some 9)]
theorem fr_X11_joinedAhead_b0 {M0 : xM} (fu : Nat)  (x1 : Int32) (x2 : Int32)   (M : xM) (hm : xfr wr_X11_joinedAhead M0 M) : Fr wr_X11_joinedAhead M0 Prod.snd (F_X11_joinedAhead fu x1 x2  M) := by
  unfold F_X11_joinedAhead
  refine Fr.bind (fr_X8_leastLead fu _ _ _) (by first | decide | simp [xwsub]) hm (fun q1 hm_q1 => ?_)
  refine Fr.ite ?_ ?_
  · exact Fr.some hm_q1
  · exact Fr.some hm_q1
theorem fr_X11_joinedAhead (fu : Nat)  (x1 : Int32) (x2 : Int32) (M : xM) : Fr wr_X11_joinedAhead M Prod.snd (F_X11_joinedAhead fu x1 x2  M) := fr_X11_joinedAhead_b0 fu x1 x2  M xfr.rf
abbrev wr_X11_event : List (Nat × Option Nat) := [(52, none), (53, none), (54, none), (55, none)]
theorem fr_X11_event_b0 {M0 : xM}  (x1 : Int32) (x2 : Int32) (x3 : Int32) (x4 : Int32)   (M : xM) (hm : xfr wr_X11_event M0 M) : Fr wr_X11_event M0 Prod.snd (F_X11_event x1 x2 x3 x4  M) := by
  unfold F_X11_event
  refine Fr.ite ?_ ?_
  · exact Fr.some hm
  · refine Fr.bind (fr_X7_add _ _ _ _ _) (by first | decide | simp [xwsub]) hm (fun q1 hm_q1 => ?_)
    exact Fr.some hm_q1
theorem fr_X11_event  (x1 : Int32) (x2 : Int32) (x3 : Int32) (x4 : Int32) (M : xM) : Fr wr_X11_event M Prod.snd (F_X11_event  x1 x2 x3 x4  M) := fr_X11_event_b0 x1 x2 x3 x4  M xfr.rf
abbrev wr_X11_badOnes : List (Nat × Option Nat) := [(10, some 4), (10, some 5)]
theorem fr_X11_badOnes_b0 {M0 : xM} (fu : Nat)  (x1 : Int32)   (M : xM) (hm : xfr wr_X11_badOnes M0 M) : Fr wr_X11_badOnes M0 Prod.snd (F_X11_badOnes fu x1  M) := by
  unfold F_X11_badOnes
  refine Fr.ite ?_ ?_
  · exact Fr.some hm
  · refine Fr.bind (fr_X7_badEvents fu _ _) (by first | decide | simp [xwsub]) hm (fun q1 hm_q1 => ?_)
    exact Fr.some hm_q1
theorem fr_X11_badOnes (fu : Nat)  (x1 : Int32) (M : xM) : Fr wr_X11_badOnes M Prod.snd (F_X11_badOnes fu x1  M) := fr_X11_badOnes_b0 fu x1  M xfr.rf
abbrev wr_X11_exposed : List (Nat × Option Nat) := [(10, some 4), (10, some 5)]
theorem fr_X11_exposed_b0 {M0 : xM} (fu : Nat)  (x1 : Int32) (x2 : Int32) (x3 : Int32)   (M : xM) (hm : xfr wr_X11_exposed M0 M) : Fr wr_X11_exposed M0 Prod.snd (F_X11_exposed fu x1 x2 x3  M) := by
  unfold F_X11_exposed
  refine Fr.ite ?_ ?_
  · exact Fr.some hm
  · refine Fr.ite ?_ ?_
    · exact Fr.some hm
    · refine Fr.bind (fr_X7_openTime fu _ _ _ _ _) (by first | decide | simp [xwsub]) hm (fun q1 hm_q1 => ?_)
      exact Fr.some hm_q1
theorem fr_X11_exposed (fu : Nat)  (x1 : Int32) (x2 : Int32) (x3 : Int32) (M : xM) : Fr wr_X11_exposed M Prod.snd (F_X11_exposed fu x1 x2 x3  M) := fr_X11_exposed_b0 fu x1 x2 x3  M xfr.rf
abbrev wr_X11_placeAt : List (Nat × Option Nat) := []
theorem fr_X11_placeAt_b0 {M0 : xM} (fu : Nat)  (x1 : Int32) (x2 : Int32)   (M : xM) (hm : xfr wr_X11_placeAt M0 M) : Fr wr_X11_placeAt M0 Prod.snd (F_X11_placeAt fu x1 x2  M) := by
  unfold F_X11_placeAt
  refine Fr.ite ?_ ?_
  · exact Fr.some hm
  · refine Fr.ite ?_ ?_
    · exact Fr.some hm
    · refine Fr.bind (fr_X7_placeThen fu _ _ _) (by first | decide | simp [xwsub]) hm (fun q1 hm_q1 => ?_)
      exact Fr.some hm_q1
theorem fr_X11_placeAt (fu : Nat)  (x1 : Int32) (x2 : Int32) (M : xM) : Fr wr_X11_placeAt M Prod.snd (F_X11_placeAt fu x1 x2  M) := fr_X11_placeAt_b0 fu x1 x2  M xfr.rf
abbrev wr_X11_alone : List (Nat × Option Nat) := [(10, some 4), (10, some 5)]
theorem fr_X11_alone_b0 {M0 : xM} (fu : Nat)  (x1 : Int32) (x2 : Int32) (x3 : Int32) (x4 : Int32)   (M : xM) (hm : xfr wr_X11_alone M0 M) : Fr wr_X11_alone M0 Prod.snd (F_X11_alone fu x1 x2 x3 x4  M) := by
  unfold F_X11_alone
  refine Fr.ite ?_ ?_
  · exact Fr.some hm
  · refine Fr.ite ?_ ?_
    · exact Fr.some hm
    · refine Fr.ite ?_ ?_
      · exact Fr.some hm
      · refine Fr.bind (fr_X7_openTime fu _ _ _ _ _) (by first | decide | simp [xwsub]) hm (fun q1 hm_q1 => ?_)
        exact Fr.some hm_q1
theorem fr_X11_alone (fu : Nat)  (x1 : Int32) (x2 : Int32) (x3 : Int32) (x4 : Int32) (M : xM) : Fr wr_X11_alone M Prod.snd (F_X11_alone fu x1 x2 x3 x4  M) := fr_X11_alone_b0 fu x1 x2 x3 x4  M xfr.rf
abbrev wr_X11_recount : List (Nat × Option Nat) := [(31, none), (32, none)]
theorem fr_X11_recount_b0 {M0 : xM}  (x1 : Int32) (x2 : Int32) (x3 : Int32)   (M : xM) (hm : xfr wr_X11_recount M0 M) : Fr wr_X11_recount M0 Prod.snd (F_X11_recount x1 x2 x3  M) := by
  unfold F_X11_recount
  refine Fr.bind (fr_X5_addRecount _ _ _ _) (by first | decide | simp [xwsub]) hm (fun q1 hm_q1 => ?_)
  exact Fr.some hm_q1
theorem fr_X11_recount  (x1 : Int32) (x2 : Int32) (x3 : Int32) (M : xM) : Fr wr_X11_recount M Prod.snd (F_X11_recount  x1 x2 x3  M) := fr_X11_recount_b0 x1 x2 x3  M xfr.rf
abbrev wr_X11_changed : List (Nat × Option Nat) := []
theorem fr_X11_changed_b0 {M0 : xM} (fu : Nat)  (x1 : Int32) (x2 : Int32)   (M : xM) (hm : xfr wr_X11_changed M0 M) : Fr wr_X11_changed M0 Prod.snd (F_X11_changed fu x1 x2  M) := by
  unfold F_X11_changed
  refine Fr.bind (fr_X5_changes fu _ _ _) (by first | decide | simp [xwsub]) hm (fun q1 hm_q1 => ?_)
  exact Fr.some hm_q1
theorem fr_X11_changed (fu : Nat)  (x1 : Int32) (x2 : Int32) (M : xM) : Fr wr_X11_changed M Prod.snd (F_X11_changed fu x1 x2  M) := fr_X11_changed_b0 fu x1 x2  M xfr.rf
abbrev wr_X11_differs : List (Nat × Option Nat) := []
theorem fr_X11_differs_b0 {M0 : xM} (fu : Nat)  (x1 : Int32)   (M : xM) (hm : xfr wr_X11_differs M0 M) : Fr wr_X11_differs M0 Prod.snd (F_X11_differs fu x1  M) := by
  unfold F_X11_differs
  refine Fr.ite ?_ ?_
  · exact Fr.some hm
  · refine Fr.bind (fr_X5_unlikeShown fu _ _) (by first | decide | simp [xwsub]) hm (fun q1 hm_q1 => ?_)
    exact Fr.some hm_q1
theorem fr_X11_differs (fu : Nat)  (x1 : Int32) (M : xM) : Fr wr_X11_differs M Prod.snd (F_X11_differs fu x1  M) := fr_X11_differs_b0 fu x1  M xfr.rf
abbrev wr_X11_take : List (Nat × Option Nat) := [(26, none)]
theorem fr_X11_take_b0 {M0 : xM} (fu : Nat)  (x1 : Int32)   (M : xM) (hm : xfr wr_X11_take M0 M) : Fr wr_X11_take M0 Prod.snd (F_X11_take fu x1  M) := by
  unfold F_X11_take
  refine Fr.ite ?_ ?_
  · exact Fr.some hm
  · refine Fr.bind (fr_X5_takeRecounts fu _ _) (by first | decide | simp [xwsub]) hm (fun q1 hm_q1 => ?_)
    exact Fr.some hm_q1
theorem fr_X11_take (fu : Nat)  (x1 : Int32) (M : xM) : Fr wr_X11_take M Prod.snd (F_X11_take fu x1  M) := fr_X11_take_b0 fu x1  M xfr.rf
