/-! Whether a set FITS, and the PULLS by it: both sides, told once -/
def pS (R : xM) (m s : Nat) : aS := arr R m s (R 15 m).toNatClampNeg
def Vm (fu : Nat) (R : xM) (m : Nat) : Nat := (vot fu R m (R 0 17)).toNatClampNeg
def fitP (fu : Nat) (R : xM) (lv on m s : Nat) : Bool := allB (fL R (pS R m s) (shw R m) (Vm fu R m)) lv && allB (fO R (pS R m s) (shw R m) (Vm fu R m) lv) on
def loP (R : xM) (m s l : Nat) : Nat := lowL (pS R m s) (shw R m) l
def hiP (fu : Nat) (R : xM) (lv m s o l : Nat) : Nat := hiL R (pS R m s) (shw R m) (Vm fu R m) lv o l
/-- the world that both sides read -/
def FW (fu lv on mn : Nat) (C R : xM) : Prop := RN C R ∧ RO C R ∧ RF C R ∧ RS C R ∧ RQ C R ∧ RC C R ∧ RY fu C R ∧ R 0 1 = nI lv ∧ R 0 7 = nI on ∧ R 0 32 = nI mn ∧ C 1 0 = nI lv ∧ C 1 1 = nI on ∧ C 5 1 = nI mn ∧ lv ≤ 16 ∧ on ≤ 6 ∧ mn ≤ 6
section FIT6
variable {R C : xM} {m lv on mn fu : Nat} {p : aS} {T : Nat → Nat}
theorem FW.fr {C' R' : xM} {wc wr : List (Nat × Option Nat)} (h : FW fu lv on mn C R) (hc : xfr wc C C') (hr : xfr wr R R') (s1 : xsep wc (RNc ++ ROc ++ RFc ++ RSc ++ RQc ++ RCc ++ RYc) = true) (s2 : xsep wr (RNr ++ ROr ++ RFr ++ RSr ++ RQr ++ RCr ++ RYr) = true) : FW fu lv on mn C' R' := by
  have sub : ∀ {w a b : List (Nat × Option Nat)}, xsep w (a ++ b) = true → xsep w a = true ∧ xsep w b = true := fun {w a b} h => by
    unfold xsep at h ⊢
    simp only [List.all_append, List.all_eq_true, Bool.and_eq_true] at h ⊢
    exact ⟨fun x hx => (h x hx).1, fun x hx => (h x hx).2⟩
  obtain ⟨t1, c7⟩ := sub s1
  obtain ⟨t1, c6⟩ := sub t1
  obtain ⟨t1, c5⟩ := sub t1
  obtain ⟨t1, c4⟩ := sub t1
  obtain ⟨t1, c3⟩ := sub t1
  obtain ⟨c1, c2⟩ := sub t1
  obtain ⟨t1, r7⟩ := sub s2
  obtain ⟨t1, r6⟩ := sub t1
  obtain ⟨t1, r5⟩ := sub t1
  obtain ⟨t1, r4⟩ := sub t1
  obtain ⟨t1, r3⟩ := sub t1
  obtain ⟨r1, r2⟩ := sub t1
  obtain ⟨h1, h2, h3, h4, h5, h6, h7, e1, e2, e3, e4, e5, e6, b⟩ := h
  have kc : ∀ k j, xin RNc k j = true → C' k j = C k j := fun k j hk => hc k j (by
    cases hw : xin wc k j with
    | false => rfl
    | true => exact (xsep_no c1 hw hk).elim)
  have kr : ∀ k j, xin RNr k j = true → R' k j = R k j := fun k j hk => hr k j (by
    cases hw : xin wr k j with
    | false => rfl
    | true => exact (xsep_no r1 hw hk).elim)
  exact ⟨rel_fr RN_m h1 hc hr c1 r1, rel_fr RO_m h2 hc hr c2 r2, rel_fr RF_m h3 hc hr c3 r3, rel_fr RS_m h4 hc hr c4 r4, rel_fr RQ_m h5 hc hr c5 r5, rel_fr RC_m h6 hc hr c6 r6, rel_fr (P := RY fu) (RY_m fu) h7 hc hr c7 r7, (kr 0 1 rfl).trans e1, (kr 0 7 rfl).trans e2, (kr 0 32 rfl).trans e3, (kc 1 0 rfl).trans e4, (kc 1 1 rfl).trans e5, (kc 5 1 rfl).trans e6, b⟩
theorem shw_ok (hS : RS C R) (hm : m < 6) {c : Nat} (hc : c < 16) : C 26 (m * 16 + c) = nI (shw R m c) ∧ R 12 (m * 16 + c) = nI (shw R m c) ∧ shw R m c ≤ 999 := by
  obtain ⟨e1, v, hv, e2⟩ := hS.1 (m * 16 + c) (by omega)
  have e : shw R m c = v := by
    unfold shw
    rw [e2, nI_clamp (by omega)]
  rw [e]
  exact ⟨e1.trans e2, e2, hv⟩
theorem kO_ok (hO : RO C R) {o : Nat} (ho : o < 6) : C 12 o = nI (kO R o) ∧ R 2 o = nI (kO R o) ∧ kO R o ≤ 63 := by
  obtain ⟨a, ha, ea⟩ := hO.2.2 o ho
  have e : kO R o = a := by
    unfold kO
    rw [ea, nI_clamp (by omega)]
  rw [e]
  exact ⟨(hO.1 o ho).2.trans ea, ea, ha⟩
/-- the facts on a MACHINE that both sides need -/
theorem mf_ok (hW : FW fu lv on mn C R) (hm : m < mn) : ∃ F, F ≤ 8 ∧ R 15 m = nI F ∧ (R 15 m).toNatClampNeg = F ∧ QC R C m F ∧ QR R R m F ∧ okFs R m F ∧ (∀ s f, f ≤ F → okA (arr R m s f)) ∧ vot fu R m (R 0 17) = nI (Vm fu R m) ∧ Vm fu R m ≤ 999 ∧ C 23 m = nI (Vm fu R m) := by
  obtain ⟨h1, h2, h3, h4, h5, h6, h7, e1, e2, e3, e4, e5, e6, b1, b2, b3⟩ := hW
  have hm6 : m < 6 := by omega
  have hQ := h5
  obtain ⟨q1, q2, lv', hl', el', q3⟩ := h5
  obtain ⟨F, hF, eC, eR⟩ := q1 m hm6
  obtain ⟨ln, mn', hH, hmm, z32, yu, yo, yv⟩ := h7
  have em : mn' = mn := (nI_eq (by omega) (by omega)).mp (z32.symm.trans e3)
  subst em
  obtain ⟨V, hV, eV⟩ := vot_nat (x := R 0 17) hH hm6
  have eVm : Vm fu R m = V := by
    unfold Vm
    rw [eV, nI_clamp (by omega)]
  refine ⟨F, hF, eR, by rw [eR, nI_clamp (by omega)], ⟨eC, q2⟩, ⟨eR, fun k hk => ⟨rfl, rfl, rfl⟩⟩, ⟨lv', hl', fun f hf => q3 m F f hm6 eR hF hf⟩, fun s f hf => arr_ok hQ hm6 hF eR s f hf, by rw [eVm, eV], by omega, ?_⟩
  rw [yv m hm, eVm, eV]
/-- what LEVERS are of what OFFICE, as the class has it -/
theorem rb_ok (hW : FW fu lv on mn C R) : (∀ l, l < lv → (tb (C 1 7) l = true ↔ ¬ R 3 l = -1)) ∧ ∀ o, o < on → ∀ l, l < lv → (tb (C 11 o) l = true ↔ R 3 l = nI o) := by
  obtain ⟨h1, h2, h3, h4, h5, h6, h7, e1, e2, e3, e4, e5, e6, b1, b2, b3⟩ := hW
  refine ⟨fun l hl => ?_, fun o ho l hl => ?_⟩
  · obtain ⟨lv', on', g1, g2, g3, g4, g5, g6, g7⟩ := h3
    rcases g5 l (by omega) with ⟨q1, q2, q3⟩ | ⟨o, ho, q1, q2, q3⟩
    · rw [q1, q2]
      simp
    · rw [q1, q2]
      exact ⟨fun _ => nIm1 (by omega), fun _ => rfl⟩
  · obtain ⟨a, ha, ea, hf⟩ := rf_off b1 b2 e1 e2 h3 ho
    rw [(h2.1 o (by omega)).1, ea, tb_nI (by omega)]
    exact (hf l hl).symm
/-- the class: whether a set FITS -/
theorem fitC (hfu : 70000 ≤ fu) (hW : FW fu lv on mn C R) (hm : m < mn) {s : Nat} (hs : s < 2 ^ (R 15 m).toNatClampNeg) : ∃ C', F_X2_lay fu (nI m) (nI s) C = some (if fitP fu R lv on m s = true then 1 else 0, C') ∧ (fitP fu R lv on m s = true → ∀ l o, l < lv → o < on → R 3 l = nI o → C' 37 l = nI (loP R m s l) ∧ C' 38 l = nI (hiP fu R lv m s o l)) := by
  obtain ⟨F, hF, eF, ecl, hQ, _, hk, hA0, eV, hV, eC23⟩ := mf_ok hW hm
  have hb := rb_ok hW
  have hW0 := hW
  obtain ⟨h1, h2, h3, h4, h5, h6, h7, e1, e2, e3, e4, e5, e6, b1, b2, b3⟩ := hW
  have hm6 : m < 6 := by omega
  rw [ecl] at hs
  have hp2 : 2 ^ F ≤ 256 := Nat.pow_le_pow_right (n := 2) (by decide) hF
  obtain ⟨C1, f1, hA⟩ := arrC (s := s) hfu hm6 hF hk (hA0 s) hQ
  have fr1 : xfr wr_X2_arrange C C1 := fr_X2_arrange _ _ _ _ _ f1
  have hpS : pS R m s = arr R m s F := by
    unfold pS
    rw [ecl]
  rw [← hpS] at hA
  have hp : okA (pS R m s) := by
    rw [hpS]
    exact hA0 s F (Nat.le_refl F)
  have hCV : CV R C1 m lv on (pS R m s) (shw R m) := by
    refine ⟨hA, fun c hc => ?_, (fr1 1 0 rfl).trans e4, (fr1 1 1 rfl).trans e5, fun l hl => ?_, fun o ho l hl => ?_, fun o ho => ?_, b1, b2, hm6, hp⟩
    · rw [fr1 26 _ rfl]
      exact ⟨(shw_ok h4 hm6 hc).1, (shw_ok h4 hm6 hc).2.2⟩
    · rw [fr1 1 7 rfl]
      exact hb.1 l hl
    · rw [fr1 11 o rfl]
      exact hb.2 o ho l hl
    · rw [fr1 12 o rfl]
      exact ⟨(kO_ok h2 ho).1, (kO_ok h2 ho).2.2⟩
  have hsets : P_X2_setsOf (nI m) C = nI (2 ^ F) := by
    unfold P_X2_setsOf
    rw [P_X5_faultsOf, at_ok hm6 (by decide), hQ.1, bit_eq (by omega), p2 (by omega)]
  unfold F_X2_lay
  rw [hsets, if_neg (fun z => (withinm1 (by omega)).mp z ⟨s, hs, rfl⟩), f1]
  simp only [Option.bind_some]
  rw [at_ok hm6 (by decide), fr1 23 m rfl, eC23]
  obtain ⟨C2, g1, g2⟩ := ll_loop (fu := fu) hCV hV hfu (nI m) (nI s) rfl lv 0 fu C1 (by omega) (by omega) (fun _ _ _ _ => rfl) (fun j hj => absurd hj (by omega)) rfl
  unfold fitP
  cases hB : allB (fL R (pS R m s) (shw R m) (Vm fu R m)) lv with
  | false =>
    rw [hB, if_neg (by decide)] at g2
    rw [show F_X2_lay_b38 fu (nI m) (nI s) fu (nI (Vm fu R m)) 0 C1 = _ from g2, Bool.false_and, if_neg (by decide)]
    exact ⟨C2, rfl, fun z => absurd z (by decide)⟩
  | true =>
    rw [hB, if_pos rfl] at g2
    obtain ⟨g2, g3⟩ := g2
    rw [show F_X2_lay_b38 fu (nI m) (nI s) fu (nI (Vm fu R m)) 0 C1 = _ from g2, Bool.true_and]
    have hC2 : CV R C2 m lv on (pS R m s) (shw R m) := hCV.fr (ws := [(36, none), (37, none)]) (fun a j hx => g1 a j (by
      rintro rfl
      exact absurd hx (by simp [xin])) (by
      rintro rfl
      exact absurd hx (by simp [xin]))) (by decide)
    have offs : ∀ k i n M, i + k = on → k < n → (∀ a j, a ≠ 38 → M a j = C2 a j) → (∀ o, o < i → ∀ l, l < lv → R 3 l = nI o → M 38 l = nI (hiP fu R lv m s o l)) → allB (fO R (pS R m s) (shw R m) (Vm fu R m) lv) i = true → ∃ M', F_X2_lay_b84 fu (nI m) (nI s) n (nI (Vm fu R m)) (nI i) M = some (if allB (fO R (pS R m s) (shw R m) (Vm fu R m) lv) on = true then 1 else 0, M') ∧ (allB (fO R (pS R m s) (shw R m) (Vm fu R m) lv) on = true → (∀ a j, a ≠ 38 → M' a j = C2 a j) ∧ ∀ o, o < on → ∀ l, l < lv → R 3 l = nI o → M' 38 l = nI (hiP fu R lv m s o l)) := by
      intro k
      induction k with
      | zero =>
        intro i n M hi hn hM hH hBB
        obtain ⟨n, rfl⟩ : ∃ z, n = z + 1 := ⟨n - 1, by omega⟩
        obtain rfl : i = on := by omega
        rw [F_X2_lay_b84, hM 1 1 (by decide), hC2.2.2.2.1, if_pos (nI_le (Nat.le_refl i) (by omega)), hBB, if_pos rfl]
        exact ⟨M, rfl, fun _ => ⟨hM, hH⟩⟩
      | succ k ih =>
        intro i n M hi hn hM hH hBB
        obtain ⟨n, rfl⟩ : ∃ z, n = z + 1 := ⟨n - 1, by omega⟩
        have hCM : CV R M m lv on (pS R m s) (shw R m) := hC2.fr (ws := [(38, none)]) (fun a j hx => hM a j (by
          rintro rfl
          exact absurd hx (by simp [xin]))) (by decide)
        have hLM : ∀ j, j < lv → ¬ R 3 j = -1 → M 37 j = nI (lowL (pS R m s) (shw R m) j) ∧ M 36 j = nI (stpL (pS R m s) j) := fun j hj hr => by
          rw [hM 37 j (by decide), hM 36 j (by decide)]
          exact g3 j hj hr
        have hki : kO R i * Vm fu R m ≤ 62937 := Nat.mul_le_mul (kO_ok h2 (show i < 6 by omega)).2.2 hV
        have hsm := sm_le (R := R) (T := shw R m) hp i lv b1
        rw [F_X2_lay_b84, hM 1 1 (by decide), hC2.2.2.2.1, if_neg (show ¬ nI on ≤ nI i from nI_ge (by omega) (by omega))]
        unfold F_X2_layOffice
        rw [P_X0_mostOf, at_ok (show i < 6 by omega) (by decide), (hCM.2.2.2.2.2.2.1 i (by omega)).1, pk_mul]
        have lf := lf_loop (fu := fu) hCM (fun j hj hr => (hLM j hj hr).1) (show i < on by omega) (nI (Vm fu R m)) (kO R i * Vm fu R m) lv 0 fu (by omega) (by omega)
        rw [show nI (kO R i * Vm fu R m) - nI (smL R (lowL (pS R m s) (shw R m)) i 0) = nI (kO R i * Vm fu R m) from Int32.sub_zero _] at lf
        rw [show F_X2_layOffice_b14 fu (nI i) (nI (Vm fu R m)) fu (nI (kO R i * Vm fu R m)) 0 M = _ from lf]
        have good : fO R (pS R m s) (shw R m) (Vm fu R m) lv i = true → ∀ x3 x4 : Int32, ((pS R m s).2.2.2.2 i = false → x3 = nI (kO R i * Vm fu R m - smL R (lowL (pS R m s) (shw R m)) i lv) ∧ x4 = 0) → ((pS R m s).2.2.2.2 i = true → x4 = 1) → ∃ M', ((F_X2_layOffice_b78 fu (nI i) (nI (Vm fu R m)) x3 x4 M).bind fun q1 => if q1.1 = 0 then some (0, q1.2) else F_X2_lay_b84 fu (nI m) (nI s) n (nI (Vm fu R m)) (nI i + 1) q1.2) = some (if allB (fO R (pS R m s) (shw R m) (Vm fu R m) lv) on = true then 1 else 0, M') ∧ (allB (fO R (pS R m s) (shw R m) (Vm fu R m) lv) on = true → (∀ a j, a ≠ 38 → M' a j = C2 a j) ∧ ∀ o, o < on → ∀ l, l < lv → R 3 l = nI o → M' 38 l = nI (hiP fu R lv m s o l)) := by
          intro hfo x3 x4 hx3 hx4
          have hOO : (pS R m s).2.2.2.2 i = true ∨ smL R (lowL (pS R m s) (shw R m)) i lv ≤ kO R i * Vm fu R m := by
            unfold fO at hfo
            simpa using hfo
          obtain ⟨M1, k1, k2, k3, k4⟩ := hi_loop (fu := fu) hCM hV hLM hB (show i < on by omega) hOO x3 x4 hx3 hx4 lv 0 fu M (by omega) (by omega) (fun _ _ _ => rfl) (fun j hj => absurd hj (by omega)) (fun _ _ => rfl)
          unfold F_X2_layOffice_b78
          rw [show F_X2_layOffice_b81 fu (nI i) (nI (Vm fu R m)) fu x3 x4 0 M = _ from k1]
          simp only [Option.bind_some, add1]
          rw [if_neg (show ¬ ((1 : Int32) = 0) by decide)]
          refine ih (i + 1) n M1 (by omega) (by omega) (fun a j ha => (k2 a j ha).trans (hM a j ha)) (fun o ho l hl hr => ?_) ?_
          · by_cases e : o = i
            · subst e
              exact k3 l hl hr
            · rw [k4 l (by rw [hr]; exact fun z => e ((nI_eq (by omega) (by omega)).mp z))]
              exact hH o (by omega) l hl hr
          · rw [allB, hBB, hfo]
            rfl
        cases hof : (pS R m s).2.2.2.2 i with
        | true =>
          rw [if_pos rfl]
          exact good (by unfold fO; rw [hof, Bool.true_or]) _ 1 (fun z => absurd (hof.symm.trans z) (by decide)) (fun _ => rfl)
        | false =>
          rw [if_neg (show ¬ (false = true) by decide)]
          by_cases z : smL R (lowL (pS R m s) (shw R m)) i lv ≤ kO R i * Vm fu R m
          · rw [if_pos ((nn_sub (by omega) (by omega)).mpr z), pk_sub z]
            exact good (by unfold fO; rw [decide_eq_true z, Bool.or_true]) _ 0 (fun _ => ⟨rfl, rfl⟩) (fun y => absurd (hof.symm.trans y) (by decide))
          · rw [if_neg (fun y => z ((nn_sub (by omega) (by omega)).mp y))]
            simp only [Option.bind_some, if_true]
            have hfo : fO R (pS R m s) (shw R m) (Vm fu R m) lv i = false := by
              unfold fO
              rw [hof, decide_eq_false z]
              rfl
            rw [allB_no hfo (show i < on by omega), if_neg (by decide)]
            exact ⟨M, rfl, fun y => absurd y (by decide)⟩
    obtain ⟨C3, k1, k2⟩ := offs on 0 fu C2 (by omega) (by omega) (fun _ _ _ => rfl) (fun o ho => absurd ho (by omega)) rfl
    refine ⟨C3, k1, fun z l o hl ho hr => ?_⟩
    obtain ⟨k3, k4⟩ := k2 z
    refine ⟨?_, k4 o ho l hl hr⟩
    rw [k3 37 l (by decide)]
    exact (g3 l hl (by rw [hr]; exact nIm1 (by omega))).1
end FIT6
