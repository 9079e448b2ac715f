/-! The reference: whether a set FITS, and what lies ready behind it -/
def RD (fu : Nat) (S : xM) (o l lo hi : Nat) : Prop := ∃ bo sm : Int32, F_X12_boundOf (nI o) S = some (bo, S) ∧ F_X12_sumOfLeast fu (nI o) S = some (sm, S) ∧ S 22 l = nI lo ∧ F_X12_greatest fu (nI l) (bo - sm + nI lo) S = some (nI hi, S)
section FIT7
variable {R C : xM} {m lv on mn fu : Nat}
theorem vot_fr {R' : xM} {ws : List (Nat × Option Nat)} (hf : xfr ws R R') (hs : xsep ws LHr = true) (x : Int32) : vot fu R' m x = vot fu R m x := by
  rw [← vot_m fu R', ← vot_m fu R, msk_fr hf hs]
theorem fitR (hfu : 70000 ≤ fu) (hW : FW fu lv on mn C R) (hm : m < mn) (s : Nat) : ∃ R', F_X12_fits fu (nI m) (nI s) R = some (if fitP fu R lv on m s = true then 1 else 0, R') ∧ (fitP fu R lv on m s = true → ∀ l o, l < lv → o < on → R 3 l = nI o → RD fu R' o l (loP R m s l) (hiP fu R lv m s o l)) := by
  obtain ⟨F, hF, eF, ecl, _, hQ, hk, hA0, eV, hV, eC23⟩ := mf_ok hW hm
  obtain ⟨h1, h2, h3, h4, h5, h6, h7, e1, e2, e3, e4, e5, e6, b1, b2, b3⟩ := hW
  have hm6 : m < 6 := by omega
  obtain ⟨R1, f1, hA, h43⟩ := arrR (s := s) hfu hm6 hF hk (hA0 s) hQ
  have fr1 : xfr wr_X12_lay R R1 := fr_X12_lay _ _ _ _ _ f1
  have hpS : pS R m s = arr R m s F := by
    unfold pS
    rw [ecl]
  rw [← hpS] at hA
  have hp : okA (pS R m s) := by
    rw [hpS]
    exact hA0 s F (Nat.le_refl F)
  obtain ⟨ln, mn', hH, hmm, z32, yu, yo, yv⟩ := h7
  have hH1 : LH fu ln C R1 := rel_fr (P := LH fu ln) (wc := []) (LH_m fu ln) hH xfr.rf fr1 (by decide) (by decide)
  obtain ⟨R2, f2⟩ := vbR hfu hH1 (x := R 0 17) yo hm6
  have fr2 : xfr wr_X12_votersBy R1 R2 := fr_X12_votersBy _ _ _ _ _ f2
  rw [vot_fr fr1 (by decide), eV] at f2
  have k2 : ∀ a j, xin wr_X12_lay a j = false → xin wr_X12_votersBy a j = false → R2 a j = R a j := fun a j q1 q2 => (fr2 a j q2).trans (fr1 a j q1)
  have hSV : SV' R (xset R2 0 44 (nI (Vm fu R m))) m lv on (pS R m s) (shw R m) (Vm fu R m) := by
    obtain ⟨a1, a2, a3⟩ := hA
    refine ⟨⟨fun l hl => ?_, fun l hl => ?_, fun o ho => ?_⟩, ?_, by simp [xset], hV, fun c hc => ?_, ?_, ?_, fun j => ?_, fun o ho => ?_, b1, b2, hm6, hp⟩
    · show R2 19 l = _ ∧ R2 20 l = _ ∧ R2 21 l = _
      rw [fr2 19 l rfl, fr2 20 l rfl, fr2 21 l rfl]
      exact a1 l hl
    · show R2 23 l = _
      rw [fr2 23 l rfl]
      exact a2 l hl
    · show tb (R2 0 42) o = _
      rw [fr2 0 42 rfl]
      exact a3 o ho
    · show R2 0 43 = _
      rw [fr2 0 43 rfl]
      exact h43
    · show R2 12 _ = _ ∧ _
      rw [k2 12 _ rfl rfl]
      exact (shw_ok h4 hm6 hc).2
    · exact (k2 0 1 rfl rfl).trans e1
    · exact (k2 0 7 rfl rfl).trans e2
    · exact k2 3 j rfl rfl
    · show R2 2 o = _ ∧ _
      rw [k2 2 o rfl rfl]
      exact (kO_ok h2 ho).2
  obtain ⟨M', g1, g2⟩ := fl_loop (fu := fu) hSV hfu (nI m) (nI s) lv 0 fu (xset R2 0 44 (nI (Vm fu R m))) (by omega) (by omega) (fun _ _ _ => rfl) (fun j hj => absurd hj (by omega)) rfl
  unfold F_X12_fits fitP
  rw [f1]
  simp only [Option.bind_some]
  rw [fr1 0 17 rfl, f2]
  simp only [Option.bind_some]
  cases hB : allB (fL R (pS R m s) (shw R m) (Vm fu R m)) lv with
  | false =>
    rw [hB, if_neg (by decide)] at g2
    rw [show F_X12_fits_b21 fu (nI m) (nI s) fu 0 (xset R2 0 44 (nI (Vm fu R m))) = _ from g2, Bool.false_and, if_neg (by decide)]
    exact ⟨M', rfl, fun z => absurd z (by decide)⟩
  | true =>
    rw [hB, if_pos rfl] at g2
    obtain ⟨g2, g3⟩ := g2
    have hM : SV' R M' m lv on (pS R m s) (shw R m) (Vm fu R m) := hSV.s22 (j := 0) (v := 0) g1
    have fo := fo_loop (fu := fu) hM hfu g3 (nI m) (nI s) on 0 fu (by omega) (by omega) rfl
    rw [show F_X12_fits_b21 fu (nI m) (nI s) fu 0 (xset R2 0 44 (nI (Vm fu R m))) = _ from g2, show F_X12_fits_b112 fu (nI m) (nI s) fu 0 M' = _ from fo, Bool.true_and]
    refine ⟨M', rfl, fun z l o hl ho hr => ?_⟩
    have ho6 : o < 6 := by omega
    have hl16 : l < 16 := by omega
    have hr1 : ¬ R 3 l = -1 := by
      rw [hr]
      exact nIm1 (by omega)
    have hfl := allB_at hB l hl
    unfold fL at hfl
    rw [decide_eq_false hr1, Bool.false_or] at hfl
    have hfo := allB_at z o ho
    have hlo := fit_told hp hl16 hfl
    have hkv := kV hM ho6
    have hsm := sm_le (R := R) (T := shw R m) hp o lv b1
    have hll := low_le (T := shw R m) hp hl16
    have hsb : smL R (lowL (pS R m s) (shw R m)) o lv ≤ boO R (pS R m s) (Vm fu R m) o ∧ min (boO R (pS R m s) (Vm fu R m) o - smL R (lowL (pS R m s) (shw R m)) o lv + lowL (pS R m s) (shw R m) l) (Vm fu R m) = lowL (pS R m s) (shw R m) l + moL R (pS R m s) (shw R m) (Vm fu R m) lv o l ∧ boO R (pS R m s) (Vm fu R m) o ≤ 1000000 := by
      unfold fO at hfo
      unfold boO moL
      cases hof : (pS R m s).2.2.2.2 o with
      | true =>
        rw [if_pos rfl, if_pos rfl]
        have := hlo.1
        omega
      | false =>
        rw [hof, Bool.false_or] at hfo
        have := of_decide_eq_true hfo
        rw [if_neg (by decide), if_neg (by decide)]
        have := hlo.1
        omega
    refine ⟨_, _, bo_ok hM ho6, sm_ok (fu := fu) hM.2.2.2.2.2.1 b1 hM.2.2.2.2.2.2.2.1 hp (fun j hj hrj => g3 j hj (by rw [hrj]; exact nIm1 (by omega))) lv 0 fu (by omega) (by omega), g3 l hl hr1, ?_⟩
    rw [pk_sub hsb.1, show nI (loP R m s l) = nI (lowL (pS R m s) (shw R m) l) from rfl, nI_add]
    exact grt_ok hM hfu hl16 hfl (by omega) hsb.2.1
-- pure: the same where nothing of it was written
theorem arr_fr {R' : xM} (h : ∀ k, k < 48 → R' 16 k = R 16 k ∧ R' 17 k = R 17 k ∧ R' 18 k = R 18 k) (hm : m < 6) (s : Nat) : ∀ f, f ≤ 8 → arr R' m s f = arr R m s f := by
  intro f
  induction f with
  | zero => exact fun _ => rfl
  | succ f ih =>
    intro hf
    obtain ⟨q1, q2, q3⟩ := h (m * 8 + f) (by omega)
    rw [arr, arr, ih (by omega), q1, q2, q3]
abbrev wrF : List (Nat × Option Nat) := [(0, some 0), (24, none), (25, none)] ++ wr_X12_fits
theorem smL_fr {R' : xM} (h : ∀ j, R' 3 j = R 3 j) (lw : Nat → Nat) (o : Nat) : ∀ n, smL R' lw o n = smL R lw o n := by
  intro n
  induction n with
  | zero => rfl
  | succ n ih => rw [smL, smL, ih, h]
theorem pS_fr {R' : xM} (hf : xfr wrF R R') (hm : m < 6) (h15 : (R 15 m).toNatClampNeg ≤ 8) (s : Nat) : pS R' m s = pS R m s := by
  unfold pS
  rw [hf 15 m rfl]
  exact arr_fr (fun k _ => ⟨hf 16 k rfl, hf 17 k rfl, hf 18 k rfl⟩) hm s _ h15
theorem Vm_fr {R' : xM} (hf : xfr wrF R R') : Vm fu R' m = Vm fu R m := by
  unfold Vm
  rw [hf 0 17 rfl, vot_fr hf (by decide)]
theorem shw_fr {R' : xM} (hf : xfr wrF R R') : shw R' m = shw R m := by
  funext c
  unfold shw
  rw [hf 12 _ rfl]
theorem fitP_fr {R' : xM} (hf : xfr wrF R R') (hm : m < 6) (h15 : (R 15 m).toNatClampNeg ≤ 8) (s : Nat) : fitP fu R' lv on m s = fitP fu R lv on m s := by
  unfold fitP
  rw [pS_fr hf hm h15, Vm_fr hf, shw_fr hf]
  have e1 : fL R' = fL R := by
    funext p T V l
    unfold fL
    rw [hf 3 l rfl]
  have e2 : fO R' = fO R := by
    funext p T V lv o
    unfold fO kO
    rw [hf 2 o rfl, smL_fr (fun j => hf 3 j rfl)]
  rw [e1, e2]
theorem loP_fr {R' : xM} (hf : xfr wrF R R') (hm : m < 6) (h15 : (R 15 m).toNatClampNeg ≤ 8) (s l : Nat) : loP R' m s l = loP R m s l := by
  unfold loP
  rw [pS_fr hf hm h15, shw_fr hf]
theorem hiP_fr {R' : xM} (hf : xfr wrF R R') (hm : m < 6) (h15 : (R 15 m).toNatClampNeg ≤ 8) (s o l : Nat) : hiP fu R' lv m s o l = hiP fu R lv m s o l := by
  unfold hiP hiL moL kO
  rw [pS_fr hf hm h15, Vm_fr hf, shw_fr hf, hf 2 o rfl, smL_fr (fun j => hf 3 j rfl)]
end FIT7
