/-! THE WHOLE RELATION, and that every op keeps it -/
section OPS
def xRel (C R : xM) : Prop := RN C R ∧ RI C R ∧ RA C R ∧ RS C R ∧ RE C R ∧ RC C R ∧ RX C R ∧ RP C R ∧ RO C R ∧ RF C R ∧ RB C R ∧ RQ C R ∧ RT C R ∧ RY FU C R ∧ RZ C R ∧ RM C R
theorem xRel.mk {C R : xM} (hN : RN C R) (hI : RI C R) (hA : RA C R) (hS : RS C R) (hE : RE C R) (hC : RC C R) (hX : RX C R) (hP : RP C R) (hO : RO C R) (hF : RF C R) (hB : RB C R) (hQ : RQ C R) (hT : RT C R) (hY : RY FU C R) (hZ : RZ C R) (hM : RM C R) : xRel C R := ⟨hN, hI, hA, hS, hE, hC, hX, hP, hO, hF, hB, hQ, hT, hY, hZ, hM⟩
theorem xRel.hN {C R : xM} (h : xRel C R) : RN C R := h.1
theorem xRel.hI {C R : xM} (h : xRel C R) : RI C R := h.2.1
theorem xRel.hA {C R : xM} (h : xRel C R) : RA C R := h.2.2.1
theorem xRel.hS {C R : xM} (h : xRel C R) : RS C R := h.2.2.2.1
theorem xRel.hE {C R : xM} (h : xRel C R) : RE C R := h.2.2.2.2.1
theorem xRel.hC {C R : xM} (h : xRel C R) : RC C R := h.2.2.2.2.2.1
theorem xRel.hX {C R : xM} (h : xRel C R) : RX C R := h.2.2.2.2.2.2.1
theorem xRel.hP {C R : xM} (h : xRel C R) : RP C R := h.2.2.2.2.2.2.2.1
theorem xRel.hO {C R : xM} (h : xRel C R) : RO C R := h.2.2.2.2.2.2.2.2.1
theorem xRel.hF {C R : xM} (h : xRel C R) : RF C R := h.2.2.2.2.2.2.2.2.2.1
theorem xRel.hB {C R : xM} (h : xRel C R) : RB C R := h.2.2.2.2.2.2.2.2.2.2.1
theorem xRel.hQ {C R : xM} (h : xRel C R) : RQ C R := h.2.2.2.2.2.2.2.2.2.2.2.1
theorem xRel.hT {C R : xM} (h : xRel C R) : RT C R := h.2.2.2.2.2.2.2.2.2.2.2.2.1
theorem xRel.hY {C R : xM} (h : xRel C R) : RY FU C R := h.2.2.2.2.2.2.2.2.2.2.2.2.2.1
theorem xRel.hZ {C R : xM} (h : xRel C R) : RZ C R := h.2.2.2.2.2.2.2.2.2.2.2.2.2.2.1
theorem xRel.hM {C R : xM} (h : xRel C R) : RM C R := h.2.2.2.2.2.2.2.2.2.2.2.2.2.2.2
theorem FU_ok : 70000 ≤ FU := by decide
theorem RU_of {C R : xM} (h : RY FU C R) : RU C R := by
  obtain ⟨ln, mn, -, -, -, h, -⟩ := h
  exact h
theorem rop_Op0 : Op0 xRel := by
  intro C R x1 x2 hr
  obtain ⟨v, C', R', e1, e2, gN, gO, gF, gB⟩ := op_office FU_ok x1 x2 hr.hN hr.hO hr.hF hr.hB
  have f1 : xfr wr_X11_office C C' := fr_X11_office x1 x2 C _ e1
  have f2 : xfr wr_X12_office R R' := fr_X12_office FU x1 x2 R _ e2
  exact ⟨v, C', R', e1, e2, xRel.mk (hN := gN) (hI := rel_fr RI_m hr.hI f1 f2 (by decide) (by decide)) (hA := rel_fr RA_m hr.hA f1 f2 (by decide) (by decide)) (hS := rel_fr RS_m hr.hS f1 f2 (by decide) (by decide)) (hE := rel_fr RE_m hr.hE f1 f2 (by decide) (by decide)) (hC := rel_fr RC_m hr.hC f1 f2 (by decide) (by decide)) (hX := rel_fr RX_m hr.hX f1 f2 (by decide) (by decide)) (hP := rel_fr RP_m hr.hP f1 f2 (by decide) (by decide)) (hO := gO) (hF := gF) (hB := gB) (hQ := rel_fr RQ_m hr.hQ f1 f2 (by decide) (by decide)) (hT := rel_fr RT_m hr.hT f1 f2 (by decide) (by decide)) (hY := rel_fr (RY_m FU) hr.hY f1 f2 (by decide) (by decide)) (hZ := RZ_office x1 x2 hr.hZ e1) (hM := rel_fr RM_m hr.hM f1 f2 (by decide) (by decide))⟩
theorem rop_Op1 : Op1 xRel := by
  intro C R x1 x2 hr
  obtain ⟨v, C', R', e1, e2, gN, gP, gB⟩ := op_strap x1 x2 hr.hN hr.hP hr.hB
  have f1 : xfr wr_X11_strap C C' := fr_X11_strap x1 x2 C _ e1
  have f2 : xfr wr_X12_strap R R' := fr_X12_strap x1 x2 R _ e2
  exact ⟨v, C', R', e1, e2, xRel.mk (hN := gN) (hI := rel_fr RI_m hr.hI f1 f2 (by decide) (by decide)) (hA := rel_fr RA_m hr.hA f1 f2 (by decide) (by decide)) (hS := rel_fr RS_m hr.hS f1 f2 (by decide) (by decide)) (hE := rel_fr RE_m hr.hE f1 f2 (by decide) (by decide)) (hC := rel_fr RC_m hr.hC f1 f2 (by decide) (by decide)) (hX := rel_fr RX_m hr.hX f1 f2 (by decide) (by decide)) (hP := gP) (hO := rel_fr RO_m hr.hO f1 f2 (by decide) (by decide)) (hF := rel_fr RF_m hr.hF f1 f2 (by decide) (by decide)) (hB := gB) (hQ := rel_fr RQ_m hr.hQ f1 f2 (by decide) (by decide)) (hT := rel_fr RT_m hr.hT f1 f2 (by decide) (by decide)) (hY := rel_fr (RY_m FU) hr.hY f1 f2 (by decide) (by decide)) (hZ := rel_fr RZ_m hr.hZ f1 f2 (by decide) (by decide)) (hM := rel_fr RM_m hr.hM f1 f2 (by decide) (by decide))⟩
theorem rop_Op2 : Op2 xRel := by
  intro C R hr
  obtain ⟨v, C', R', e1, e2, gN, gB⟩ := op_unstrap  hr.hN hr.hB
  have f1 : xfr wr_X11_unstrap C C' := fr_X11_unstrap  C _ e1
  have f2 : xfr wr_X12_unstrap R R' := fr_X12_unstrap  R _ e2
  exact ⟨v, C', R', e1, e2, xRel.mk (hN := gN) (hI := rel_fr RI_m hr.hI f1 f2 (by decide) (by decide)) (hA := rel_fr RA_m hr.hA f1 f2 (by decide) (by decide)) (hS := rel_fr RS_m hr.hS f1 f2 (by decide) (by decide)) (hE := rel_fr RE_m hr.hE f1 f2 (by decide) (by decide)) (hC := rel_fr RC_m hr.hC f1 f2 (by decide) (by decide)) (hX := rel_fr RX_m hr.hX f1 f2 (by decide) (by decide)) (hP := rel_fr RP_m hr.hP f1 f2 (by decide) (by decide)) (hO := rel_fr RO_m hr.hO f1 f2 (by decide) (by decide)) (hF := rel_fr RF_m hr.hF f1 f2 (by decide) (by decide)) (hB := gB) (hQ := rel_fr RQ_m hr.hQ f1 f2 (by decide) (by decide)) (hT := rel_fr RT_m hr.hT f1 f2 (by decide) (by decide)) (hY := rel_fr (RY_m FU) hr.hY f1 f2 (by decide) (by decide)) (hZ := rel_fr RZ_m hr.hZ f1 f2 (by decide) (by decide)) (hM := rel_fr RM_m hr.hM f1 f2 (by decide) (by decide))⟩
theorem rop_Op3 : Op3 xRel := by
  intro C R x1 x2 hr
  obtain ⟨v, e1, e2⟩ := op_may FU_ok x1 x2 hr.hN hr.hP hr.hO
  have f1 : xfr [] C C := xfr.rf
  have f2 : xfr [(0, some 0)] R (xset R 0 0 0) := xfr.setf xfr.rf rfl
  exact ⟨v, C, (xset R 0 0 0), e1, e2, xRel.mk (hN := rel_fr RN_m hr.hN f1 f2 (by decide) (by decide)) (hI := rel_fr RI_m hr.hI f1 f2 (by decide) (by decide)) (hA := rel_fr RA_m hr.hA f1 f2 (by decide) (by decide)) (hS := rel_fr RS_m hr.hS f1 f2 (by decide) (by decide)) (hE := rel_fr RE_m hr.hE f1 f2 (by decide) (by decide)) (hC := rel_fr RC_m hr.hC f1 f2 (by decide) (by decide)) (hX := rel_fr RX_m hr.hX f1 f2 (by decide) (by decide)) (hP := rel_fr RP_m hr.hP f1 f2 (by decide) (by decide)) (hO := rel_fr RO_m hr.hO f1 f2 (by decide) (by decide)) (hF := rel_fr RF_m hr.hF f1 f2 (by decide) (by decide)) (hB := rel_fr RB_m hr.hB f1 f2 (by decide) (by decide)) (hQ := rel_fr RQ_m hr.hQ f1 f2 (by decide) (by decide)) (hT := rel_fr RT_m hr.hT f1 f2 (by decide) (by decide)) (hY := rel_fr (RY_m FU) hr.hY f1 f2 (by decide) (by decide)) (hZ := rel_fr RZ_m hr.hZ f1 f2 (by decide) (by decide)) (hM := rel_fr RM_m hr.hM f1 f2 (by decide) (by decide))⟩
theorem rop_Op4 : Op4 xRel := by
  intro C R x1 hr
  obtain ⟨v, C', e1, e2, gB⟩ := op_proof FU_ok x1 hr.hN hr.hP hr.hO hr.hB
  have f1 : xfr wr_X11_proof C C' := fr_X11_proof FU x1 C _ e1
  have f2 : xfr [(0, some 0)] R (xset R 0 0 0) := xfr.setf xfr.rf rfl
  exact ⟨v, C', (xset R 0 0 0), e1, e2, xRel.mk (hN := rel_fr RN_m hr.hN f1 f2 (by decide) (by decide)) (hI := rel_fr RI_m hr.hI f1 f2 (by decide) (by decide)) (hA := rel_fr RA_m hr.hA f1 f2 (by decide) (by decide)) (hS := rel_fr RS_m hr.hS f1 f2 (by decide) (by decide)) (hE := rel_fr RE_m hr.hE f1 f2 (by decide) (by decide)) (hC := rel_fr RC_m hr.hC f1 f2 (by decide) (by decide)) (hX := rel_fr RX_m hr.hX f1 f2 (by decide) (by decide)) (hP := rel_fr RP_m hr.hP f1 f2 (by decide) (by decide)) (hO := rel_fr RO_m hr.hO f1 f2 (by decide) (by decide)) (hF := rel_fr RF_m hr.hF f1 f2 (by decide) (by decide)) (hB := gB) (hQ := rel_fr RQ_m hr.hQ f1 f2 (by decide) (by decide)) (hT := rel_fr RT_m hr.hT f1 f2 (by decide) (by decide)) (hY := rel_fr (RY_m FU) hr.hY f1 f2 (by decide) (by decide)) (hZ := rel_fr RZ_m hr.hZ f1 f2 (by decide) (by decide)) (hM := rel_fr RM_m hr.hM f1 f2 (by decide) (by decide))⟩
theorem rop_Op5 : Op5 xRel := by
  intro C R hr
  obtain ⟨v, C', e1, e2, gB⟩ := op_rows FU_ok  hr.hN hr.hP hr.hO hr.hB
  have f1 : xfr wr_X11_rows C C' := fr_X11_rows FU C _ e1
  have f2 : xfr [(0, some 0)] R (xset R 0 0 0) := xfr.setf xfr.rf rfl
  exact ⟨v, C', (xset R 0 0 0), e1, e2, xRel.mk (hN := rel_fr RN_m hr.hN f1 f2 (by decide) (by decide)) (hI := rel_fr RI_m hr.hI f1 f2 (by decide) (by decide)) (hA := rel_fr RA_m hr.hA f1 f2 (by decide) (by decide)) (hS := rel_fr RS_m hr.hS f1 f2 (by decide) (by decide)) (hE := rel_fr RE_m hr.hE f1 f2 (by decide) (by decide)) (hC := rel_fr RC_m hr.hC f1 f2 (by decide) (by decide)) (hX := rel_fr RX_m hr.hX f1 f2 (by decide) (by decide)) (hP := rel_fr RP_m hr.hP f1 f2 (by decide) (by decide)) (hO := rel_fr RO_m hr.hO f1 f2 (by decide) (by decide)) (hF := rel_fr RF_m hr.hF f1 f2 (by decide) (by decide)) (hB := gB) (hQ := rel_fr RQ_m hr.hQ f1 f2 (by decide) (by decide)) (hT := rel_fr RT_m hr.hT f1 f2 (by decide) (by decide)) (hY := rel_fr (RY_m FU) hr.hY f1 f2 (by decide) (by decide)) (hZ := rel_fr RZ_m hr.hZ f1 f2 (by decide) (by decide)) (hM := rel_fr RM_m hr.hM f1 f2 (by decide) (by decide))⟩
theorem rop_Op6 : Op6 xRel := by
  intro C R hr
  obtain ⟨v, C', R', e1, e2, gB0⟩ := op_need FU_ok  hr.hN hr.hP hr.hO hr.hB
  have f1 : xfr wr_X11_need C C' := fr_X11_need FU C _ e1
  have f2 : xfr wr_X12_need R R' := fr_X12_need FU R _ e2
  have f0 : xfr [(0, some 0)] (xset R 0 0 0) R := fun k j h => ((xfr.setf xfr.rf rfl : xfr [(0, some 0)] R (xset R 0 0 0)) k j h).symm
  have gB : RB C' R' := rel_fr (wc := []) RB_m (rel_fr (wc := []) RB_m gB0 xfr.rf f0 (by decide) (by decide)) xfr.rf f2 (by decide) (by decide)
  exact ⟨v, C', R', e1, e2, xRel.mk (hN := rel_fr RN_m hr.hN f1 f2 (by decide) (by decide)) (hI := rel_fr RI_m hr.hI f1 f2 (by decide) (by decide)) (hA := rel_fr RA_m hr.hA f1 f2 (by decide) (by decide)) (hS := rel_fr RS_m hr.hS f1 f2 (by decide) (by decide)) (hE := rel_fr RE_m hr.hE f1 f2 (by decide) (by decide)) (hC := rel_fr RC_m hr.hC f1 f2 (by decide) (by decide)) (hX := rel_fr RX_m hr.hX f1 f2 (by decide) (by decide)) (hP := rel_fr RP_m hr.hP f1 f2 (by decide) (by decide)) (hO := rel_fr RO_m hr.hO f1 f2 (by decide) (by decide)) (hF := rel_fr RF_m hr.hF f1 f2 (by decide) (by decide)) (hB := gB) (hQ := rel_fr RQ_m hr.hQ f1 f2 (by decide) (by decide)) (hT := rel_fr RT_m hr.hT f1 f2 (by decide) (by decide)) (hY := rel_fr (RY_m FU) hr.hY f1 f2 (by decide) (by decide)) (hZ := rel_fr RZ_m hr.hZ f1 f2 (by decide) (by decide)) (hM := rel_fr RM_m hr.hM f1 f2 (by decide) (by decide))⟩
theorem rop_Op7 : Op7 xRel := by
  intro C R x1 hr
  obtain ⟨v, e1, e2⟩ := op_orders FU_ok x1 hr.hN hr.hP
  have f1 : xfr [] C C := xfr.rf
  have f2 : xfr [(0, some 0)] R (xset R 0 0 0) := xfr.setf xfr.rf rfl
  exact ⟨v, C, (xset R 0 0 0), e1, e2, xRel.mk (hN := rel_fr RN_m hr.hN f1 f2 (by decide) (by decide)) (hI := rel_fr RI_m hr.hI f1 f2 (by decide) (by decide)) (hA := rel_fr RA_m hr.hA f1 f2 (by decide) (by decide)) (hS := rel_fr RS_m hr.hS f1 f2 (by decide) (by decide)) (hE := rel_fr RE_m hr.hE f1 f2 (by decide) (by decide)) (hC := rel_fr RC_m hr.hC f1 f2 (by decide) (by decide)) (hX := rel_fr RX_m hr.hX f1 f2 (by decide) (by decide)) (hP := rel_fr RP_m hr.hP f1 f2 (by decide) (by decide)) (hO := rel_fr RO_m hr.hO f1 f2 (by decide) (by decide)) (hF := rel_fr RF_m hr.hF f1 f2 (by decide) (by decide)) (hB := rel_fr RB_m hr.hB f1 f2 (by decide) (by decide)) (hQ := rel_fr RQ_m hr.hQ f1 f2 (by decide) (by decide)) (hT := rel_fr RT_m hr.hT f1 f2 (by decide) (by decide)) (hY := rel_fr (RY_m FU) hr.hY f1 f2 (by decide) (by decide)) (hZ := rel_fr RZ_m hr.hZ f1 f2 (by decide) (by decide)) (hM := rel_fr RM_m hr.hM f1 f2 (by decide) (by decide))⟩
theorem rop_Op8 : Op8 xRel := by
  intro C R x1 x2 x3 x4 x5 hr
  obtain ⟨v, C', R', e1, e2, gN, gT⟩ := op_feed FU_ok x1 x2 x3 x4 x5 hr.hN hr.hT
  have f1 : xfr wr_X11_feed C C' := fr_X11_feed FU x1 x2 x3 x4 x5 C _ e1
  have f2 : xfr wr_X12_feed R R' := fr_X12_feed FU x1 x2 x3 x4 x5 R _ e2
  exact ⟨v, C', R', e1, e2, xRel.mk (hN := gN) (hI := rel_fr RI_m hr.hI f1 f2 (by decide) (by decide)) (hA := rel_fr RA_m hr.hA f1 f2 (by decide) (by decide)) (hS := rel_fr RS_m hr.hS f1 f2 (by decide) (by decide)) (hE := rel_fr RE_m hr.hE f1 f2 (by decide) (by decide)) (hC := rel_fr RC_m hr.hC f1 f2 (by decide) (by decide)) (hX := rel_fr RX_m hr.hX f1 f2 (by decide) (by decide)) (hP := rel_fr RP_m hr.hP f1 f2 (by decide) (by decide)) (hO := rel_fr RO_m hr.hO f1 f2 (by decide) (by decide)) (hF := rel_fr RF_m hr.hF f1 f2 (by decide) (by decide)) (hB := rel_fr RB_m hr.hB f1 f2 (by decide) (by decide)) (hQ := rel_fr RQ_m hr.hQ f1 f2 (by decide) (by decide)) (hT := gT) (hY := rel_fr (RY_m FU) hr.hY f1 f2 (by decide) (by decide)) (hZ := rel_fr RZ_m hr.hZ f1 f2 (by decide) (by decide)) (hM := rel_fr RM_m hr.hM f1 f2 (by decide) (by decide))⟩
theorem rop_Op9 : Op9 xRel := by
  intro C R x1 hr
  obtain ⟨v, C', R', e1, e2, gN⟩ := op_end x1 hr.hN
  have f1 : xfr wr_X11_end C C' := fr_X11_end x1 C _ e1
  have f2 : xfr wr_X12_end R R' := fr_X12_end x1 R _ e2
  exact ⟨v, C', R', e1, e2, xRel.mk (hN := gN) (hI := rel_fr RI_m hr.hI f1 f2 (by decide) (by decide)) (hA := rel_fr RA_m hr.hA f1 f2 (by decide) (by decide)) (hS := rel_fr RS_m hr.hS f1 f2 (by decide) (by decide)) (hE := rel_fr RE_m hr.hE f1 f2 (by decide) (by decide)) (hC := rel_fr RC_m hr.hC f1 f2 (by decide) (by decide)) (hX := rel_fr RX_m hr.hX f1 f2 (by decide) (by decide)) (hP := rel_fr RP_m hr.hP f1 f2 (by decide) (by decide)) (hO := rel_fr RO_m hr.hO f1 f2 (by decide) (by decide)) (hF := rel_fr RF_m hr.hF f1 f2 (by decide) (by decide)) (hB := rel_fr RB_m hr.hB f1 f2 (by decide) (by decide)) (hQ := rel_fr RQ_m hr.hQ f1 f2 (by decide) (by decide)) (hT := rel_fr RT_m hr.hT f1 f2 (by decide) (by decide)) (hY := rel_fr (RY_m FU) hr.hY f1 f2 (by decide) (by decide)) (hZ := rel_fr RZ_m hr.hZ f1 f2 (by decide) (by decide)) (hM := rel_fr RM_m hr.hM f1 f2 (by decide) (by decide))⟩
theorem rop_Op10 : Op10 xRel := by
  intro C R hr
  obtain ⟨v, C', R', e1, e2⟩ := op_fault FU_ok  hr.hN hr.hT
  have f1 : xfr wr_X11_fault C C' := fr_X11_fault FU C _ e1
  have f2 : xfr wr_X12_fault R R' := fr_X12_fault FU R _ e2
  exact ⟨v, C', R', e1, e2, xRel.mk (hN := rel_fr RN_m hr.hN f1 f2 (by decide) (by decide)) (hI := rel_fr RI_m hr.hI f1 f2 (by decide) (by decide)) (hA := rel_fr RA_m hr.hA f1 f2 (by decide) (by decide)) (hS := rel_fr RS_m hr.hS f1 f2 (by decide) (by decide)) (hE := rel_fr RE_m hr.hE f1 f2 (by decide) (by decide)) (hC := rel_fr RC_m hr.hC f1 f2 (by decide) (by decide)) (hX := rel_fr RX_m hr.hX f1 f2 (by decide) (by decide)) (hP := rel_fr RP_m hr.hP f1 f2 (by decide) (by decide)) (hO := rel_fr RO_m hr.hO f1 f2 (by decide) (by decide)) (hF := rel_fr RF_m hr.hF f1 f2 (by decide) (by decide)) (hB := rel_fr RB_m hr.hB f1 f2 (by decide) (by decide)) (hQ := rel_fr RQ_m hr.hQ f1 f2 (by decide) (by decide)) (hT := rel_fr RT_m hr.hT f1 f2 (by decide) (by decide)) (hY := rel_fr (RY_m FU) hr.hY f1 f2 (by decide) (by decide)) (hZ := rel_fr RZ_m hr.hZ f1 f2 (by decide) (by decide)) (hM := rel_fr RM_m hr.hM f1 f2 (by decide) (by decide))⟩
theorem rop_Op11 : Op11 xRel := by
  intro C R hr
  obtain ⟨v, C', R', e1, e2, gN, gY⟩ := op_law FU_ok  hr.hN hr.hT hr.hY
  have f1 : xfr wr_X11_law C C' := fr_X11_law FU C _ e1
  have f2 : xfr wr_X12_law R R' := fr_X12_law FU R _ e2
  exact ⟨v, C', R', e1, e2, xRel.mk (hN := gN) (hI := rel_fr RI_m hr.hI f1 f2 (by decide) (by decide)) (hA := rel_fr RA_m hr.hA f1 f2 (by decide) (by decide)) (hS := rel_fr RS_m hr.hS f1 f2 (by decide) (by decide)) (hE := rel_fr RE_m hr.hE f1 f2 (by decide) (by decide)) (hC := rel_fr RC_m hr.hC f1 f2 (by decide) (by decide)) (hX := rel_fr RX_m hr.hX f1 f2 (by decide) (by decide)) (hP := rel_fr RP_m hr.hP f1 f2 (by decide) (by decide)) (hO := rel_fr RO_m hr.hO f1 f2 (by decide) (by decide)) (hF := rel_fr RF_m hr.hF f1 f2 (by decide) (by decide)) (hB := rel_fr RB_m hr.hB f1 f2 (by decide) (by decide)) (hQ := rel_fr RQ_m hr.hQ f1 f2 (by decide) (by decide)) (hT := rel_fr RT_m hr.hT f1 f2 (by decide) (by decide)) (hY := gY) (hZ := rel_fr RZ_m hr.hZ f1 f2 (by decide) (by decide)) (hM := rel_fr RM_m hr.hM f1 f2 (by decide) (by decide))⟩
theorem rop_Op12 : Op12 xRel := by
  intro C R x1 hr
  obtain ⟨v, C', R', e1, e2, gY⟩ := op_use FU_ok x1 hr.hN hr.hY
  have f1 : xfr wr_X11_use C C' := fr_X11_use FU x1 C _ e1
  have f2 : xfr wr_X12_use R R' := fr_X12_use x1 R _ e2
  exact ⟨v, C', R', e1, e2, xRel.mk (hN := rel_fr RN_m hr.hN f1 f2 (by decide) (by decide)) (hI := rel_fr RI_m hr.hI f1 f2 (by decide) (by decide)) (hA := rel_fr RA_m hr.hA f1 f2 (by decide) (by decide)) (hS := rel_fr RS_m hr.hS f1 f2 (by decide) (by decide)) (hE := rel_fr RE_m hr.hE f1 f2 (by decide) (by decide)) (hC := rel_fr RC_m hr.hC f1 f2 (by decide) (by decide)) (hX := rel_fr RX_m hr.hX f1 f2 (by decide) (by decide)) (hP := rel_fr RP_m hr.hP f1 f2 (by decide) (by decide)) (hO := rel_fr RO_m hr.hO f1 f2 (by decide) (by decide)) (hF := rel_fr RF_m hr.hF f1 f2 (by decide) (by decide)) (hB := rel_fr RB_m hr.hB f1 f2 (by decide) (by decide)) (hQ := rel_fr RQ_m hr.hQ f1 f2 (by decide) (by decide)) (hT := rel_fr RT_m hr.hT f1 f2 (by decide) (by decide)) (hY := gY) (hZ := rel_fr RZ_m hr.hZ f1 f2 (by decide) (by decide)) (hM := rel_fr RM_m hr.hM f1 f2 (by decide) (by decide))⟩
theorem rop_Op13 : Op13 xRel := by
  intro C R x1 x2 x3 x4 x5 hr
  obtain ⟨v, C', R', e1, e2, gN, gC, gY⟩ := op_machine FU_ok x1 x2 x3 x4 x5 hr.hN hr.hC hr.hY
  have f1 : xfr wr_X11_machine C C' := fr_X11_machine FU x1 x2 x3 x4 x5 C _ e1
  have f2 : xfr wr_X12_machine R R' := fr_X12_machine x1 x2 x3 x4 x5 R _ e2
  exact ⟨v, C', R', e1, e2, xRel.mk (hN := gN) (hI := rel_fr RI_m hr.hI f1 f2 (by decide) (by decide)) (hA := rel_fr RA_m hr.hA f1 f2 (by decide) (by decide)) (hS := rel_fr RS_m hr.hS f1 f2 (by decide) (by decide)) (hE := rel_fr RE_m hr.hE f1 f2 (by decide) (by decide)) (hC := gC) (hX := rel_fr RX_m hr.hX f1 f2 (by decide) (by decide)) (hP := rel_fr RP_m hr.hP f1 f2 (by decide) (by decide)) (hO := rel_fr RO_m hr.hO f1 f2 (by decide) (by decide)) (hF := rel_fr RF_m hr.hF f1 f2 (by decide) (by decide)) (hB := rel_fr RB_m hr.hB f1 f2 (by decide) (by decide)) (hQ := rel_fr RQ_m hr.hQ f1 f2 (by decide) (by decide)) (hT := rel_fr RT_m hr.hT f1 f2 (by decide) (by decide)) (hY := gY) (hZ := rel_fr RZ_m hr.hZ f1 f2 (by decide) (by decide)) (hM := rel_fr RM_m hr.hM f1 f2 (by decide) (by decide))⟩
theorem rop_Op14 : Op14 xRel := by
  intro C R x1 hr
  obtain ⟨R', e2⟩ := op_voters FU_ok x1 hr.hN hr.hY
  have f1 : xfr [] C C := xfr.rf
  have f2 : xfr wr_X12_voters R R' := fr_X12_voters FU x1 R _ e2
  exact ⟨_, C, R', rfl, e2, xRel.mk (hN := rel_fr RN_m hr.hN f1 f2 (by decide) (by decide)) (hI := rel_fr RI_m hr.hI f1 f2 (by decide) (by decide)) (hA := rel_fr RA_m hr.hA f1 f2 (by decide) (by decide)) (hS := rel_fr RS_m hr.hS f1 f2 (by decide) (by decide)) (hE := rel_fr RE_m hr.hE f1 f2 (by decide) (by decide)) (hC := rel_fr RC_m hr.hC f1 f2 (by decide) (by decide)) (hX := rel_fr RX_m hr.hX f1 f2 (by decide) (by decide)) (hP := rel_fr RP_m hr.hP f1 f2 (by decide) (by decide)) (hO := rel_fr RO_m hr.hO f1 f2 (by decide) (by decide)) (hF := rel_fr RF_m hr.hF f1 f2 (by decide) (by decide)) (hB := rel_fr RB_m hr.hB f1 f2 (by decide) (by decide)) (hQ := rel_fr RQ_m hr.hQ f1 f2 (by decide) (by decide)) (hT := rel_fr RT_m hr.hT f1 f2 (by decide) (by decide)) (hY := rel_fr (RY_m FU) hr.hY f1 f2 (by decide) (by decide)) (hZ := rel_fr RZ_m hr.hZ f1 f2 (by decide) (by decide)) (hM := rel_fr RM_m hr.hM f1 f2 (by decide) (by decide))⟩
theorem rop_Op15 : Op15 xRel := by
  intro C R x1 hr
  obtain ⟨v, C', R', e1, e2⟩ := op_agree FU_ok x1 hr.hN hr.hY
  have f1 : xfr wr_X11_agree C C' := fr_X11_agree FU x1 C _ e1
  have f2 : xfr wr_X12_agree R R' := fr_X12_agree FU x1 R _ e2
  exact ⟨v, C', R', e1, e2, xRel.mk (hN := rel_fr RN_m hr.hN f1 f2 (by decide) (by decide)) (hI := rel_fr RI_m hr.hI f1 f2 (by decide) (by decide)) (hA := rel_fr RA_m hr.hA f1 f2 (by decide) (by decide)) (hS := rel_fr RS_m hr.hS f1 f2 (by decide) (by decide)) (hE := rel_fr RE_m hr.hE f1 f2 (by decide) (by decide)) (hC := rel_fr RC_m hr.hC f1 f2 (by decide) (by decide)) (hX := rel_fr RX_m hr.hX f1 f2 (by decide) (by decide)) (hP := rel_fr RP_m hr.hP f1 f2 (by decide) (by decide)) (hO := rel_fr RO_m hr.hO f1 f2 (by decide) (by decide)) (hF := rel_fr RF_m hr.hF f1 f2 (by decide) (by decide)) (hB := rel_fr RB_m hr.hB f1 f2 (by decide) (by decide)) (hQ := rel_fr RQ_m hr.hQ f1 f2 (by decide) (by decide)) (hT := rel_fr RT_m hr.hT f1 f2 (by decide) (by decide)) (hY := rel_fr (RY_m FU) hr.hY f1 f2 (by decide) (by decide)) (hZ := rel_fr RZ_m hr.hZ f1 f2 (by decide) (by decide)) (hM := rel_fr RM_m hr.hM f1 f2 (by decide) (by decide))⟩
theorem rop_Op16 : Op16 xRel := by
  intro C R x1 x2 x3 hr
  obtain ⟨v, C', R', e1, e2, gS⟩ := op_show x1 x2 x3 hr.hN hr.hS
  have f1 : xfr wr_X11_show C C' := fr_X11_show x1 x2 x3 C _ e1
  have f2 : xfr wr_X12_show R R' := fr_X12_show x1 x2 x3 R _ e2
  exact ⟨v, C', R', e1, e2, xRel.mk (hN := rel_fr RN_m hr.hN f1 f2 (by decide) (by decide)) (hI := rel_fr RI_m hr.hI f1 f2 (by decide) (by decide)) (hA := rel_fr RA_m hr.hA f1 f2 (by decide) (by decide)) (hS := gS) (hE := rel_fr RE_m hr.hE f1 f2 (by decide) (by decide)) (hC := rel_fr RC_m hr.hC f1 f2 (by decide) (by decide)) (hX := rel_fr RX_m hr.hX f1 f2 (by decide) (by decide)) (hP := rel_fr RP_m hr.hP f1 f2 (by decide) (by decide)) (hO := rel_fr RO_m hr.hO f1 f2 (by decide) (by decide)) (hF := rel_fr RF_m hr.hF f1 f2 (by decide) (by decide)) (hB := rel_fr RB_m hr.hB f1 f2 (by decide) (by decide)) (hQ := rel_fr RQ_m hr.hQ f1 f2 (by decide) (by decide)) (hT := rel_fr RT_m hr.hT f1 f2 (by decide) (by decide)) (hY := rel_fr (RY_m FU) hr.hY f1 f2 (by decide) (by decide)) (hZ := rel_fr RZ_m hr.hZ f1 f2 (by decide) (by decide)) (hM := rel_fr RM_m hr.hM f1 f2 (by decide) (by decide))⟩
theorem rop_Op17 : Op17 xRel := by
  intro C R x1 x2 x3 x4 hr
  obtain ⟨v, C', R', e1, e2, gQ⟩ := op_trouble x1 x2 x3 x4 hr.hN hr.hQ
  have f1 : xfr wr_X11_trouble C C' := fr_X11_trouble x1 x2 x3 x4 C _ e1
  have f2 : xfr wr_X12_trouble R R' := fr_X12_trouble x1 x2 x3 x4 R _ e2
  exact ⟨v, C', R', e1, e2, xRel.mk (hN := rel_fr RN_m hr.hN f1 f2 (by decide) (by decide)) (hI := rel_fr RI_m hr.hI f1 f2 (by decide) (by decide)) (hA := rel_fr RA_m hr.hA f1 f2 (by decide) (by decide)) (hS := rel_fr RS_m hr.hS f1 f2 (by decide) (by decide)) (hE := rel_fr RE_m hr.hE f1 f2 (by decide) (by decide)) (hC := rel_fr RC_m hr.hC f1 f2 (by decide) (by decide)) (hX := rel_fr RX_m hr.hX f1 f2 (by decide) (by decide)) (hP := rel_fr RP_m hr.hP f1 f2 (by decide) (by decide)) (hO := rel_fr RO_m hr.hO f1 f2 (by decide) (by decide)) (hF := rel_fr RF_m hr.hF f1 f2 (by decide) (by decide)) (hB := rel_fr RB_m hr.hB f1 f2 (by decide) (by decide)) (hQ := gQ) (hT := rel_fr RT_m hr.hT f1 f2 (by decide) (by decide)) (hY := rel_fr (RY_m FU) hr.hY f1 f2 (by decide) (by decide)) (hZ := rel_fr RZ_m hr.hZ f1 f2 (by decide) (by decide)) (hM := rel_fr RM_m hr.hM f1 f2 (by decide) (by decide))⟩
theorem rop_Op18 : Op18 xRel := by
  intro C R x1 x2 hr
  obtain ⟨lv, on, mn, hW⟩ := FW.mk' hr.hN hr.hO hr.hF hr.hS hr.hQ hr.hC hr.hY
  obtain ⟨v, C', R', e1, e2⟩ := op_fitting FU_ok x1 x2 hW
  have f1 : xfr wr_X11_fitting C C' := fr_X11_fitting FU x1 x2 C _ e1
  have f2 : xfr wr_X12_fitting R R' := fr_X12_fitting FU x1 x2 R _ e2
  exact ⟨v, C', R', e1, e2, xRel.mk (hN := rel_fr RN_m hr.hN f1 f2 (by decide) (by decide)) (hI := rel_fr RI_m hr.hI f1 f2 (by decide) (by decide)) (hA := rel_fr RA_m hr.hA f1 f2 (by decide) (by decide)) (hS := rel_fr RS_m hr.hS f1 f2 (by decide) (by decide)) (hE := rel_fr RE_m hr.hE f1 f2 (by decide) (by decide)) (hC := rel_fr RC_m hr.hC f1 f2 (by decide) (by decide)) (hX := rel_fr RX_m hr.hX f1 f2 (by decide) (by decide)) (hP := rel_fr RP_m hr.hP f1 f2 (by decide) (by decide)) (hO := rel_fr RO_m hr.hO f1 f2 (by decide) (by decide)) (hF := rel_fr RF_m hr.hF f1 f2 (by decide) (by decide)) (hB := rel_fr RB_m hr.hB f1 f2 (by decide) (by decide)) (hQ := rel_fr RQ_m hr.hQ f1 f2 (by decide) (by decide)) (hT := rel_fr RT_m hr.hT f1 f2 (by decide) (by decide)) (hY := rel_fr (RY_m FU) hr.hY f1 f2 (by decide) (by decide)) (hZ := rel_fr RZ_m hr.hZ f1 f2 (by decide) (by decide)) (hM := rel_fr RM_m hr.hM f1 f2 (by decide) (by decide))⟩
theorem rop_Op19 : Op19 xRel := by
  intro C R x1 x2 hr
  obtain ⟨lv, on, mn, hW⟩ := FW.mk' hr.hN hr.hO hr.hF hr.hS hr.hQ hr.hC hr.hY
  obtain ⟨v, C', R', e1, e2⟩ := op_sets FU_ok x1 x2 hW
  have f1 : xfr wr_X11_sets C C' := fr_X11_sets FU x1 x2 C _ e1
  have f2 : xfr wr_X12_sets R R' := fr_X12_sets FU x1 x2 R _ e2
  exact ⟨v, C', R', e1, e2, xRel.mk (hN := rel_fr RN_m hr.hN f1 f2 (by decide) (by decide)) (hI := rel_fr RI_m hr.hI f1 f2 (by decide) (by decide)) (hA := rel_fr RA_m hr.hA f1 f2 (by decide) (by decide)) (hS := rel_fr RS_m hr.hS f1 f2 (by decide) (by decide)) (hE := rel_fr RE_m hr.hE f1 f2 (by decide) (by decide)) (hC := rel_fr RC_m hr.hC f1 f2 (by decide) (by decide)) (hX := rel_fr RX_m hr.hX f1 f2 (by decide) (by decide)) (hP := rel_fr RP_m hr.hP f1 f2 (by decide) (by decide)) (hO := rel_fr RO_m hr.hO f1 f2 (by decide) (by decide)) (hF := rel_fr RF_m hr.hF f1 f2 (by decide) (by decide)) (hB := rel_fr RB_m hr.hB f1 f2 (by decide) (by decide)) (hQ := rel_fr RQ_m hr.hQ f1 f2 (by decide) (by decide)) (hT := rel_fr RT_m hr.hT f1 f2 (by decide) (by decide)) (hY := rel_fr (RY_m FU) hr.hY f1 f2 (by decide) (by decide)) (hZ := rel_fr RZ_m hr.hZ f1 f2 (by decide) (by decide)) (hM := rel_fr RM_m hr.hM f1 f2 (by decide) (by decide))⟩
theorem rop_Op20 : Op20 xRel := by
  intro C R x1 x2 x3 hr
  obtain ⟨lv, on, mn, hW⟩ := FW.mk' hr.hN hr.hO hr.hF hr.hS hr.hQ hr.hC hr.hY
  obtain ⟨v, C', R', e1, e2⟩ := op_span FU_ok x1 x2 x3 hW
  have f1 : xfr wr_X11_span C C' := fr_X11_span FU x1 x2 x3 C _ e1
  have f2 : xfr wr_X12_span R R' := fr_X12_span FU x1 x2 x3 R _ e2
  exact ⟨v, C', R', e1, e2, xRel.mk (hN := rel_fr RN_m hr.hN f1 f2 (by decide) (by decide)) (hI := rel_fr RI_m hr.hI f1 f2 (by decide) (by decide)) (hA := rel_fr RA_m hr.hA f1 f2 (by decide) (by decide)) (hS := rel_fr RS_m hr.hS f1 f2 (by decide) (by decide)) (hE := rel_fr RE_m hr.hE f1 f2 (by decide) (by decide)) (hC := rel_fr RC_m hr.hC f1 f2 (by decide) (by decide)) (hX := rel_fr RX_m hr.hX f1 f2 (by decide) (by decide)) (hP := rel_fr RP_m hr.hP f1 f2 (by decide) (by decide)) (hO := rel_fr RO_m hr.hO f1 f2 (by decide) (by decide)) (hF := rel_fr RF_m hr.hF f1 f2 (by decide) (by decide)) (hB := rel_fr RB_m hr.hB f1 f2 (by decide) (by decide)) (hQ := rel_fr RQ_m hr.hQ f1 f2 (by decide) (by decide)) (hT := rel_fr RT_m hr.hT f1 f2 (by decide) (by decide)) (hY := rel_fr (RY_m FU) hr.hY f1 f2 (by decide) (by decide)) (hZ := rel_fr RZ_m hr.hZ f1 f2 (by decide) (by decide)) (hM := rel_fr RM_m hr.hM f1 f2 (by decide) (by decide))⟩
theorem rop_Op21 : Op21 xRel := by
  intro C R x1 x2 hr
  obtain ⟨lv, on, mn, hW⟩ := FW.mk' hr.hN hr.hO hr.hF hr.hS hr.hQ hr.hC hr.hY
  obtain ⟨v, C', R', e1, e2, gC⟩ := op_open FU_ok x1 x2 hW
  have f1 : xfr wr_X11_open C C' := fr_X11_open FU x1 x2 C _ e1
  have f2 : xfr wr_X12_open R R' := fr_X12_open FU x1 x2 R _ e2
  exact ⟨v, C', R', e1, e2, xRel.mk (hN := rel_fr RN_m hr.hN f1 f2 (by decide) (by decide)) (hI := rel_fr RI_m hr.hI f1 f2 (by decide) (by decide)) (hA := rel_fr RA_m hr.hA f1 f2 (by decide) (by decide)) (hS := rel_fr RS_m hr.hS f1 f2 (by decide) (by decide)) (hE := rel_fr RE_m hr.hE f1 f2 (by decide) (by decide)) (hC := gC) (hX := rel_fr RX_m hr.hX f1 f2 (by decide) (by decide)) (hP := rel_fr RP_m hr.hP f1 f2 (by decide) (by decide)) (hO := rel_fr RO_m hr.hO f1 f2 (by decide) (by decide)) (hF := rel_fr RF_m hr.hF f1 f2 (by decide) (by decide)) (hB := rel_fr RB_m hr.hB f1 f2 (by decide) (by decide)) (hQ := rel_fr RQ_m hr.hQ f1 f2 (by decide) (by decide)) (hT := rel_fr RT_m hr.hT f1 f2 (by decide) (by decide)) (hY := rel_fr (RY_m FU) hr.hY f1 f2 (by decide) (by decide)) (hZ := rel_fr RZ_m hr.hZ f1 f2 (by decide) (by decide)) (hM := rel_fr RM_m hr.hM f1 f2 (by decide) (by decide))⟩
theorem rop_Op22 : Op22 xRel := by
  intro C R x1 x2 hr
  obtain ⟨lv, on, mn, hW⟩ := FW.mk' hr.hN hr.hO hr.hF hr.hS hr.hQ hr.hC hr.hY
  obtain ⟨v, C', R', e1, e2⟩ := op_total FU_ok x1 x2 hW
  have f1 : xfr wr_X11_total C C' := fr_X11_total FU x1 x2 C _ e1
  have f2 : xfr wr_X12_total R R' := fr_X12_total FU x1 x2 R _ e2
  exact ⟨v, C', R', e1, e2, xRel.mk (hN := rel_fr RN_m hr.hN f1 f2 (by decide) (by decide)) (hI := rel_fr RI_m hr.hI f1 f2 (by decide) (by decide)) (hA := rel_fr RA_m hr.hA f1 f2 (by decide) (by decide)) (hS := rel_fr RS_m hr.hS f1 f2 (by decide) (by decide)) (hE := rel_fr RE_m hr.hE f1 f2 (by decide) (by decide)) (hC := rel_fr RC_m hr.hC f1 f2 (by decide) (by decide)) (hX := rel_fr RX_m hr.hX f1 f2 (by decide) (by decide)) (hP := rel_fr RP_m hr.hP f1 f2 (by decide) (by decide)) (hO := rel_fr RO_m hr.hO f1 f2 (by decide) (by decide)) (hF := rel_fr RF_m hr.hF f1 f2 (by decide) (by decide)) (hB := rel_fr RB_m hr.hB f1 f2 (by decide) (by decide)) (hQ := rel_fr RQ_m hr.hQ f1 f2 (by decide) (by decide)) (hT := rel_fr RT_m hr.hT f1 f2 (by decide) (by decide)) (hY := rel_fr (RY_m FU) hr.hY f1 f2 (by decide) (by decide)) (hZ := rel_fr RZ_m hr.hZ f1 f2 (by decide) (by decide)) (hM := rel_fr RM_m hr.hM f1 f2 (by decide) (by decide))⟩
theorem rop_Op23 : Op23 xRel := by
  intro C R x1 x2 hr
  obtain ⟨lv, on, mn, hW⟩ := FW.mk' hr.hN hr.hO hr.hF hr.hS hr.hQ hr.hC hr.hY
  obtain ⟨v, C', R', e1, e2⟩ := op_ahead FU_ok x1 x2 hW
  have f1 : xfr wr_X11_ahead C C' := fr_X11_ahead FU x1 x2 C _ e1
  have f2 : xfr wr_X12_ahead R R' := fr_X12_ahead FU x1 x2 R _ e2
  exact ⟨v, C', R', e1, e2, xRel.mk (hN := rel_fr RN_m hr.hN f1 f2 (by decide) (by decide)) (hI := rel_fr RI_m hr.hI f1 f2 (by decide) (by decide)) (hA := rel_fr RA_m hr.hA f1 f2 (by decide) (by decide)) (hS := rel_fr RS_m hr.hS f1 f2 (by decide) (by decide)) (hE := rel_fr RE_m hr.hE f1 f2 (by decide) (by decide)) (hC := rel_fr RC_m hr.hC f1 f2 (by decide) (by decide)) (hX := rel_fr RX_m hr.hX f1 f2 (by decide) (by decide)) (hP := rel_fr RP_m hr.hP f1 f2 (by decide) (by decide)) (hO := rel_fr RO_m hr.hO f1 f2 (by decide) (by decide)) (hF := rel_fr RF_m hr.hF f1 f2 (by decide) (by decide)) (hB := rel_fr RB_m hr.hB f1 f2 (by decide) (by decide)) (hQ := rel_fr RQ_m hr.hQ f1 f2 (by decide) (by decide)) (hT := rel_fr RT_m hr.hT f1 f2 (by decide) (by decide)) (hY := rel_fr (RY_m FU) hr.hY f1 f2 (by decide) (by decide)) (hZ := rel_fr RZ_m hr.hZ f1 f2 (by decide) (by decide)) (hM := rel_fr RM_m hr.hM f1 f2 (by decide) (by decide))⟩
theorem rop_Op24 : Op24 xRel := by
  intro C R x1 hr
  obtain ⟨lv, on, mn, hW⟩ := FW.mk' hr.hN hr.hO hr.hF hr.hS hr.hQ hr.hC hr.hY
  obtain ⟨v, C', R', e1, e2⟩ := op_wins FU_ok x1 hW
  have f1 : xfr wr_X11_wins C C' := fr_X11_wins FU x1 C _ e1
  have f2 : xfr wr_X12_wins R R' := fr_X12_wins FU x1 R _ e2
  exact ⟨v, C', R', e1, e2, xRel.mk (hN := rel_fr RN_m hr.hN f1 f2 (by decide) (by decide)) (hI := rel_fr RI_m hr.hI f1 f2 (by decide) (by decide)) (hA := rel_fr RA_m hr.hA f1 f2 (by decide) (by decide)) (hS := rel_fr RS_m hr.hS f1 f2 (by decide) (by decide)) (hE := rel_fr RE_m hr.hE f1 f2 (by decide) (by decide)) (hC := rel_fr RC_m hr.hC f1 f2 (by decide) (by decide)) (hX := rel_fr RX_m hr.hX f1 f2 (by decide) (by decide)) (hP := rel_fr RP_m hr.hP f1 f2 (by decide) (by decide)) (hO := rel_fr RO_m hr.hO f1 f2 (by decide) (by decide)) (hF := rel_fr RF_m hr.hF f1 f2 (by decide) (by decide)) (hB := rel_fr RB_m hr.hB f1 f2 (by decide) (by decide)) (hQ := rel_fr RQ_m hr.hQ f1 f2 (by decide) (by decide)) (hT := rel_fr RT_m hr.hT f1 f2 (by decide) (by decide)) (hY := rel_fr (RY_m FU) hr.hY f1 f2 (by decide) (by decide)) (hZ := rel_fr RZ_m hr.hZ f1 f2 (by decide) (by decide)) (hM := rel_fr RM_m hr.hM f1 f2 (by decide) (by decide))⟩
theorem rop_Op25 : Op25 xRel := by
  intro C R x1 x2 hr
  obtain ⟨v, C', R', e1, e2, gC⟩ := op_cost x1 x2 hr.hN hr.hC
  have f1 : xfr wr_X11_cost C C' := fr_X11_cost x1 x2 C _ e1
  have f2 : xfr wr_X12_cost R R' := fr_X12_cost x1 x2 R _ e2
  exact ⟨v, C', R', e1, e2, xRel.mk (hN := rel_fr RN_m hr.hN f1 f2 (by decide) (by decide)) (hI := rel_fr RI_m hr.hI f1 f2 (by decide) (by decide)) (hA := rel_fr RA_m hr.hA f1 f2 (by decide) (by decide)) (hS := rel_fr RS_m hr.hS f1 f2 (by decide) (by decide)) (hE := rel_fr RE_m hr.hE f1 f2 (by decide) (by decide)) (hC := gC) (hX := rel_fr RX_m hr.hX f1 f2 (by decide) (by decide)) (hP := rel_fr RP_m hr.hP f1 f2 (by decide) (by decide)) (hO := rel_fr RO_m hr.hO f1 f2 (by decide) (by decide)) (hF := rel_fr RF_m hr.hF f1 f2 (by decide) (by decide)) (hB := rel_fr RB_m hr.hB f1 f2 (by decide) (by decide)) (hQ := rel_fr RQ_m hr.hQ f1 f2 (by decide) (by decide)) (hT := rel_fr RT_m hr.hT f1 f2 (by decide) (by decide)) (hY := rel_fr (RY_m FU) hr.hY f1 f2 (by decide) (by decide)) (hZ := rel_fr RZ_m hr.hZ f1 f2 (by decide) (by decide)) (hM := rel_fr RM_m hr.hM f1 f2 (by decide) (by decide))⟩
theorem rop_Op26 : Op26 xRel := by
  intro C R x1 x2 hr
  obtain ⟨lv, on, mn, hW⟩ := FW.mk' hr.hN hr.hO hr.hF hr.hS hr.hQ hr.hC hr.hY
  obtain ⟨v, C', R', e1, e2⟩ := op_till FU_ok x1 x2 hW
  have f1 : xfr wr_X11_till C C' := fr_X11_till FU x1 x2 C _ e1
  have f2 : xfr wr_X12_till R R' := fr_X12_till FU x1 x2 R _ e2
  exact ⟨v, C', R', e1, e2, xRel.mk (hN := rel_fr RN_m hr.hN f1 f2 (by decide) (by decide)) (hI := rel_fr RI_m hr.hI f1 f2 (by decide) (by decide)) (hA := rel_fr RA_m hr.hA f1 f2 (by decide) (by decide)) (hS := rel_fr RS_m hr.hS f1 f2 (by decide) (by decide)) (hE := rel_fr RE_m hr.hE f1 f2 (by decide) (by decide)) (hC := rel_fr RC_m hr.hC f1 f2 (by decide) (by decide)) (hX := rel_fr RX_m hr.hX f1 f2 (by decide) (by decide)) (hP := rel_fr RP_m hr.hP f1 f2 (by decide) (by decide)) (hO := rel_fr RO_m hr.hO f1 f2 (by decide) (by decide)) (hF := rel_fr RF_m hr.hF f1 f2 (by decide) (by decide)) (hB := rel_fr RB_m hr.hB f1 f2 (by decide) (by decide)) (hQ := rel_fr RQ_m hr.hQ f1 f2 (by decide) (by decide)) (hT := rel_fr RT_m hr.hT f1 f2 (by decide) (by decide)) (hY := rel_fr (RY_m FU) hr.hY f1 f2 (by decide) (by decide)) (hZ := rel_fr RZ_m hr.hZ f1 f2 (by decide) (by decide)) (hM := rel_fr RM_m hr.hM f1 f2 (by decide) (by decide))⟩
theorem rop_Op27 : Op27 xRel := by
  intro C R x1 x2 hr
  obtain ⟨v, C', R', e1, e2, gN, gX⟩ := op_test x1 x2 hr.hN hr.hX
  have f1 : xfr wr_X11_test C C' := fr_X11_test x1 x2 C _ e1
  have f2 : xfr wr_X12_test R R' := fr_X12_test x1 x2 R _ e2
  exact ⟨v, C', R', e1, e2, xRel.mk (hN := gN) (hI := rel_fr RI_m hr.hI f1 f2 (by decide) (by decide)) (hA := rel_fr RA_m hr.hA f1 f2 (by decide) (by decide)) (hS := rel_fr RS_m hr.hS f1 f2 (by decide) (by decide)) (hE := rel_fr RE_m hr.hE f1 f2 (by decide) (by decide)) (hC := rel_fr RC_m hr.hC f1 f2 (by decide) (by decide)) (hX := gX) (hP := rel_fr RP_m hr.hP f1 f2 (by decide) (by decide)) (hO := rel_fr RO_m hr.hO f1 f2 (by decide) (by decide)) (hF := rel_fr RF_m hr.hF f1 f2 (by decide) (by decide)) (hB := rel_fr RB_m hr.hB f1 f2 (by decide) (by decide)) (hQ := rel_fr RQ_m hr.hQ f1 f2 (by decide) (by decide)) (hT := rel_fr RT_m hr.hT f1 f2 (by decide) (by decide)) (hY := rel_fr (RY_m FU) hr.hY f1 f2 (by decide) (by decide)) (hZ := rel_fr RZ_m hr.hZ f1 f2 (by decide) (by decide)) (hM := rel_fr RM_m hr.hM f1 f2 (by decide) (by decide))⟩
theorem rop_Op28 : Op28 xRel := by
  intro C R x1 x2 hr
  obtain ⟨lv, on, mn, sn, tn, hW⟩ := TW.mk' hr.hN hr.hO hr.hF hr.hS hr.hQ hr.hC hr.hY hr.hP hr.hX hr.hZ
  obtain ⟨v, C', R', e1, e2⟩ := op_sees FU_ok x1 x2 hW
  have f1 : xfr wr_X11_sees C C' := fr_X11_sees FU x1 x2 C _ e1
  have f2 : xfr wr_X12_sees R R' := fr_X12_sees FU x1 x2 R _ e2
  exact ⟨v, C', R', e1, e2, xRel.mk (hN := rel_fr RN_m hr.hN f1 f2 (by decide) (by decide)) (hI := rel_fr RI_m hr.hI f1 f2 (by decide) (by decide)) (hA := rel_fr RA_m hr.hA f1 f2 (by decide) (by decide)) (hS := rel_fr RS_m hr.hS f1 f2 (by decide) (by decide)) (hE := rel_fr RE_m hr.hE f1 f2 (by decide) (by decide)) (hC := rel_fr RC_m hr.hC f1 f2 (by decide) (by decide)) (hX := rel_fr RX_m hr.hX f1 f2 (by decide) (by decide)) (hP := rel_fr RP_m hr.hP f1 f2 (by decide) (by decide)) (hO := rel_fr RO_m hr.hO f1 f2 (by decide) (by decide)) (hF := rel_fr RF_m hr.hF f1 f2 (by decide) (by decide)) (hB := rel_fr RB_m hr.hB f1 f2 (by decide) (by decide)) (hQ := rel_fr RQ_m hr.hQ f1 f2 (by decide) (by decide)) (hT := rel_fr RT_m hr.hT f1 f2 (by decide) (by decide)) (hY := rel_fr (RY_m FU) hr.hY f1 f2 (by decide) (by decide)) (hZ := rel_fr RZ_m hr.hZ f1 f2 (by decide) (by decide)) (hM := rel_fr RM_m hr.hM f1 f2 (by decide) (by decide))⟩
theorem rop_Op29 : Op29 xRel := by
  intro C R x1 hr
  obtain ⟨lv, on, mn, sn, tn, hW⟩ := TW.mk' hr.hN hr.hO hr.hF hr.hS hr.hQ hr.hC hr.hY hr.hP hr.hX hr.hZ
  obtain ⟨v, C', R', e1, e2⟩ := op_cover FU_ok x1 hW
  have f1 : xfr wr_X11_cover C C' := fr_X11_cover FU x1 C _ e1
  have f2 : xfr wr_X12_cover R R' := fr_X12_cover FU x1 R _ e2
  exact ⟨v, C', R', e1, e2, xRel.mk (hN := rel_fr RN_m hr.hN f1 f2 (by decide) (by decide)) (hI := rel_fr RI_m hr.hI f1 f2 (by decide) (by decide)) (hA := rel_fr RA_m hr.hA f1 f2 (by decide) (by decide)) (hS := rel_fr RS_m hr.hS f1 f2 (by decide) (by decide)) (hE := rel_fr RE_m hr.hE f1 f2 (by decide) (by decide)) (hC := rel_fr RC_m hr.hC f1 f2 (by decide) (by decide)) (hX := rel_fr RX_m hr.hX f1 f2 (by decide) (by decide)) (hP := rel_fr RP_m hr.hP f1 f2 (by decide) (by decide)) (hO := rel_fr RO_m hr.hO f1 f2 (by decide) (by decide)) (hF := rel_fr RF_m hr.hF f1 f2 (by decide) (by decide)) (hB := rel_fr RB_m hr.hB f1 f2 (by decide) (by decide)) (hQ := rel_fr RQ_m hr.hQ f1 f2 (by decide) (by decide)) (hT := rel_fr RT_m hr.hT f1 f2 (by decide) (by decide)) (hY := rel_fr (RY_m FU) hr.hY f1 f2 (by decide) (by decide)) (hZ := rel_fr RZ_m hr.hZ f1 f2 (by decide) (by decide)) (hM := rel_fr RM_m hr.hM f1 f2 (by decide) (by decide))⟩
theorem rop_Op30 : Op30 xRel := by
  intro C R x1 x2 x3 x4 x5 hr
  obtain ⟨v, C', R', e1, e2⟩ := op_name FU_ok x1 ((x2.toInt64 <<< ((32 : Int32).toInt64 &&& 63)) ||| (x3.toInt64 &&& (4294967295 : Int64))) x4 x5 hr.hN hr.hO hr.hF
  have f1 : xfr wr_X11_name C C' := fr_X11_name FU x1 ((x2.toInt64 <<< ((32 : Int32).toInt64 &&& 63)) ||| (x3.toInt64 &&& (4294967295 : Int64))) x4 x5 C _ e1
  have f2 : xfr wr_X12_name R R' := fr_X12_name FU x1 ((x2.toInt64 <<< ((32 : Int32).toInt64 &&& 63)) ||| (x3.toInt64 &&& (4294967295 : Int64))) x4 x5 R _ e2
  exact ⟨v, C', R', e1, e2, xRel.mk (hN := rel_fr RN_m hr.hN f1 f2 (by decide) (by decide)) (hI := rel_fr RI_m hr.hI f1 f2 (by decide) (by decide)) (hA := rel_fr RA_m hr.hA f1 f2 (by decide) (by decide)) (hS := rel_fr RS_m hr.hS f1 f2 (by decide) (by decide)) (hE := rel_fr RE_m hr.hE f1 f2 (by decide) (by decide)) (hC := rel_fr RC_m hr.hC f1 f2 (by decide) (by decide)) (hX := rel_fr RX_m hr.hX f1 f2 (by decide) (by decide)) (hP := rel_fr RP_m hr.hP f1 f2 (by decide) (by decide)) (hO := rel_fr RO_m hr.hO f1 f2 (by decide) (by decide)) (hF := rel_fr RF_m hr.hF f1 f2 (by decide) (by decide)) (hB := rel_fr RB_m hr.hB f1 f2 (by decide) (by decide)) (hQ := rel_fr RQ_m hr.hQ f1 f2 (by decide) (by decide)) (hT := rel_fr RT_m hr.hT f1 f2 (by decide) (by decide)) (hY := rel_fr (RY_m FU) hr.hY f1 f2 (by decide) (by decide)) (hZ := rel_fr RZ_m hr.hZ f1 f2 (by decide) (by decide)) (hM := rel_fr RM_m hr.hM f1 f2 (by decide) (by decide))⟩
theorem rop_Op31 : Op31 xRel := by
  intro C R x1 x2 x3 x4 hr
  obtain ⟨v, C', R', e1, e2⟩ := op_first FU_ok x1 ((x2.toInt64 <<< ((32 : Int32).toInt64 &&& 63)) ||| (x3.toInt64 &&& (4294967295 : Int64))) x4 hr.hN hr.hO hr.hF
  have f1 : xfr wr_X11_first C C' := fr_X11_first FU x1 ((x2.toInt64 <<< ((32 : Int32).toInt64 &&& 63)) ||| (x3.toInt64 &&& (4294967295 : Int64))) x4 C _ e1
  have f2 : xfr wr_X12_first R R' := fr_X12_first FU x1 ((x2.toInt64 <<< ((32 : Int32).toInt64 &&& 63)) ||| (x3.toInt64 &&& (4294967295 : Int64))) x4 R _ e2
  exact ⟨v, C', R', e1, e2, xRel.mk (hN := rel_fr RN_m hr.hN f1 f2 (by decide) (by decide)) (hI := rel_fr RI_m hr.hI f1 f2 (by decide) (by decide)) (hA := rel_fr RA_m hr.hA f1 f2 (by decide) (by decide)) (hS := rel_fr RS_m hr.hS f1 f2 (by decide) (by decide)) (hE := rel_fr RE_m hr.hE f1 f2 (by decide) (by decide)) (hC := rel_fr RC_m hr.hC f1 f2 (by decide) (by decide)) (hX := rel_fr RX_m hr.hX f1 f2 (by decide) (by decide)) (hP := rel_fr RP_m hr.hP f1 f2 (by decide) (by decide)) (hO := rel_fr RO_m hr.hO f1 f2 (by decide) (by decide)) (hF := rel_fr RF_m hr.hF f1 f2 (by decide) (by decide)) (hB := rel_fr RB_m hr.hB f1 f2 (by decide) (by decide)) (hQ := rel_fr RQ_m hr.hQ f1 f2 (by decide) (by decide)) (hT := rel_fr RT_m hr.hT f1 f2 (by decide) (by decide)) (hY := rel_fr (RY_m FU) hr.hY f1 f2 (by decide) (by decide)) (hZ := rel_fr RZ_m hr.hZ f1 f2 (by decide) (by decide)) (hM := rel_fr RM_m hr.hM f1 f2 (by decide) (by decide))⟩
theorem rop_Op32 : Op32 xRel := by
  intro C R hr
  obtain ⟨v, C', R', e1, e2, gN, gM⟩ := op_known FU_ok  hr.hN hr.hT hr.hM
  have f1 : xfr wr_X11_known C C' := fr_X11_known FU C _ e1
  have f2 : xfr wr_X12_known R R' := fr_X12_known FU R _ e2
  exact ⟨v, C', R', e1, e2, xRel.mk (hN := gN) (hI := rel_fr RI_m hr.hI f1 f2 (by decide) (by decide)) (hA := rel_fr RA_m hr.hA f1 f2 (by decide) (by decide)) (hS := rel_fr RS_m hr.hS f1 f2 (by decide) (by decide)) (hE := rel_fr RE_m hr.hE f1 f2 (by decide) (by decide)) (hC := rel_fr RC_m hr.hC f1 f2 (by decide) (by decide)) (hX := rel_fr RX_m hr.hX f1 f2 (by decide) (by decide)) (hP := rel_fr RP_m hr.hP f1 f2 (by decide) (by decide)) (hO := rel_fr RO_m hr.hO f1 f2 (by decide) (by decide)) (hF := rel_fr RF_m hr.hF f1 f2 (by decide) (by decide)) (hB := rel_fr RB_m hr.hB f1 f2 (by decide) (by decide)) (hQ := rel_fr RQ_m hr.hQ f1 f2 (by decide) (by decide)) (hT := rel_fr RT_m hr.hT f1 f2 (by decide) (by decide)) (hY := rel_fr (RY_m FU) hr.hY f1 f2 (by decide) (by decide)) (hZ := rel_fr RZ_m hr.hZ f1 f2 (by decide) (by decide)) (hM := gM)⟩
theorem rop_Op33 : Op33 xRel := by
  intro C R x1 x2 hr
  obtain ⟨v, C', R', e1, e2, gN, gM⟩ := op_read FU_ok x1 x2 hr.hN hr.hT hr.hM
  have f1 : xfr wr_X11_read C C' := fr_X11_read FU x1 x2 C _ e1
  have f2 : xfr wr_X12_read R R' := fr_X12_read FU x1 x2 R _ e2
  exact ⟨v, C', R', e1, e2, xRel.mk (hN := gN) (hI := rel_fr RI_m hr.hI f1 f2 (by decide) (by decide)) (hA := rel_fr RA_m hr.hA f1 f2 (by decide) (by decide)) (hS := rel_fr RS_m hr.hS f1 f2 (by decide) (by decide)) (hE := rel_fr RE_m hr.hE f1 f2 (by decide) (by decide)) (hC := rel_fr RC_m hr.hC f1 f2 (by decide) (by decide)) (hX := rel_fr RX_m hr.hX f1 f2 (by decide) (by decide)) (hP := rel_fr RP_m hr.hP f1 f2 (by decide) (by decide)) (hO := rel_fr RO_m hr.hO f1 f2 (by decide) (by decide)) (hF := rel_fr RF_m hr.hF f1 f2 (by decide) (by decide)) (hB := rel_fr RB_m hr.hB f1 f2 (by decide) (by decide)) (hQ := rel_fr RQ_m hr.hQ f1 f2 (by decide) (by decide)) (hT := rel_fr RT_m hr.hT f1 f2 (by decide) (by decide)) (hY := rel_fr (RY_m FU) hr.hY f1 f2 (by decide) (by decide)) (hZ := rel_fr RZ_m hr.hZ f1 f2 (by decide) (by decide)) (hM := gM)⟩
theorem rop_Op34 : Op34 xRel := by
  intro C R x1 hr
  obtain ⟨v, C', R', e1, e2, gI⟩ := op_limit x1 hr.hI
  have f1 : xfr wr_X11_limit C C' := fr_X11_limit x1 C _ e1
  have f2 : xfr wr_X12_limit R R' := fr_X12_limit x1 R _ e2
  exact ⟨v, C', R', e1, e2, xRel.mk (hN := rel_fr RN_m hr.hN f1 f2 (by decide) (by decide)) (hI := gI) (hA := rel_fr RA_m hr.hA f1 f2 (by decide) (by decide)) (hS := rel_fr RS_m hr.hS f1 f2 (by decide) (by decide)) (hE := rel_fr RE_m hr.hE f1 f2 (by decide) (by decide)) (hC := rel_fr RC_m hr.hC f1 f2 (by decide) (by decide)) (hX := rel_fr RX_m hr.hX f1 f2 (by decide) (by decide)) (hP := rel_fr RP_m hr.hP f1 f2 (by decide) (by decide)) (hO := rel_fr RO_m hr.hO f1 f2 (by decide) (by decide)) (hF := rel_fr RF_m hr.hF f1 f2 (by decide) (by decide)) (hB := rel_fr RB_m hr.hB f1 f2 (by decide) (by decide)) (hQ := rel_fr RQ_m hr.hQ f1 f2 (by decide) (by decide)) (hT := rel_fr RT_m hr.hT f1 f2 (by decide) (by decide)) (hY := rel_fr (RY_m FU) hr.hY f1 f2 (by decide) (by decide)) (hZ := rel_fr RZ_m hr.hZ f1 f2 (by decide) (by decide)) (hM := rel_fr RM_m hr.hM f1 f2 (by decide) (by decide))⟩
theorem rop_Op35 : Op35 xRel := by
  intro C R x1 x2 x3 hr
  obtain ⟨R', e2⟩ := op_far FU_ok x1 x2 x3 hr.hM
  have f1 : xfr [] C C := xfr.rf
  have f2 : xfr wr_X12_far R R' := fr_X12_far FU x1 x2 x3 R _ e2
  exact ⟨_, C, R', rfl, e2, xRel.mk (hN := rel_fr RN_m hr.hN f1 f2 (by decide) (by decide)) (hI := rel_fr RI_m hr.hI f1 f2 (by decide) (by decide)) (hA := rel_fr RA_m hr.hA f1 f2 (by decide) (by decide)) (hS := rel_fr RS_m hr.hS f1 f2 (by decide) (by decide)) (hE := rel_fr RE_m hr.hE f1 f2 (by decide) (by decide)) (hC := rel_fr RC_m hr.hC f1 f2 (by decide) (by decide)) (hX := rel_fr RX_m hr.hX f1 f2 (by decide) (by decide)) (hP := rel_fr RP_m hr.hP f1 f2 (by decide) (by decide)) (hO := rel_fr RO_m hr.hO f1 f2 (by decide) (by decide)) (hF := rel_fr RF_m hr.hF f1 f2 (by decide) (by decide)) (hB := rel_fr RB_m hr.hB f1 f2 (by decide) (by decide)) (hQ := rel_fr RQ_m hr.hQ f1 f2 (by decide) (by decide)) (hT := rel_fr RT_m hr.hT f1 f2 (by decide) (by decide)) (hY := rel_fr (RY_m FU) hr.hY f1 f2 (by decide) (by decide)) (hZ := rel_fr RZ_m hr.hZ f1 f2 (by decide) (by decide)) (hM := rel_fr RM_m hr.hM f1 f2 (by decide) (by decide))⟩
theorem rop_Op36 : Op36 xRel := by
  intro C R x1 x2 hr
  obtain ⟨v, R', e1, e2⟩ := op_goes FU_ok x1 x2 hr.hM hr.hI
  have f1 : xfr [] C C := xfr.rf
  have f2 : xfr wr_X12_goes R R' := fr_X12_goes FU x1 x2 R _ e2
  exact ⟨v, C, R', e1, e2, xRel.mk (hN := rel_fr RN_m hr.hN f1 f2 (by decide) (by decide)) (hI := rel_fr RI_m hr.hI f1 f2 (by decide) (by decide)) (hA := rel_fr RA_m hr.hA f1 f2 (by decide) (by decide)) (hS := rel_fr RS_m hr.hS f1 f2 (by decide) (by decide)) (hE := rel_fr RE_m hr.hE f1 f2 (by decide) (by decide)) (hC := rel_fr RC_m hr.hC f1 f2 (by decide) (by decide)) (hX := rel_fr RX_m hr.hX f1 f2 (by decide) (by decide)) (hP := rel_fr RP_m hr.hP f1 f2 (by decide) (by decide)) (hO := rel_fr RO_m hr.hO f1 f2 (by decide) (by decide)) (hF := rel_fr RF_m hr.hF f1 f2 (by decide) (by decide)) (hB := rel_fr RB_m hr.hB f1 f2 (by decide) (by decide)) (hQ := rel_fr RQ_m hr.hQ f1 f2 (by decide) (by decide)) (hT := rel_fr RT_m hr.hT f1 f2 (by decide) (by decide)) (hY := rel_fr (RY_m FU) hr.hY f1 f2 (by decide) (by decide)) (hZ := rel_fr RZ_m hr.hZ f1 f2 (by decide) (by decide)) (hM := rel_fr RM_m hr.hM f1 f2 (by decide) (by decide))⟩
theorem rop_Op37 : Op37 xRel := by
  intro C R x1 hr
  obtain ⟨v, R', e1, e2⟩ := op_agrees FU_ok x1 hr.hM hr.hI
  have f1 : xfr [] C C := xfr.rf
  have f2 : xfr wr_X12_agrees R R' := fr_X12_agrees FU x1 R _ e2
  exact ⟨v, C, R', e1, e2, xRel.mk (hN := rel_fr RN_m hr.hN f1 f2 (by decide) (by decide)) (hI := rel_fr RI_m hr.hI f1 f2 (by decide) (by decide)) (hA := rel_fr RA_m hr.hA f1 f2 (by decide) (by decide)) (hS := rel_fr RS_m hr.hS f1 f2 (by decide) (by decide)) (hE := rel_fr RE_m hr.hE f1 f2 (by decide) (by decide)) (hC := rel_fr RC_m hr.hC f1 f2 (by decide) (by decide)) (hX := rel_fr RX_m hr.hX f1 f2 (by decide) (by decide)) (hP := rel_fr RP_m hr.hP f1 f2 (by decide) (by decide)) (hO := rel_fr RO_m hr.hO f1 f2 (by decide) (by decide)) (hF := rel_fr RF_m hr.hF f1 f2 (by decide) (by decide)) (hB := rel_fr RB_m hr.hB f1 f2 (by decide) (by decide)) (hQ := rel_fr RQ_m hr.hQ f1 f2 (by decide) (by decide)) (hT := rel_fr RT_m hr.hT f1 f2 (by decide) (by decide)) (hY := rel_fr (RY_m FU) hr.hY f1 f2 (by decide) (by decide)) (hZ := rel_fr RZ_m hr.hZ f1 f2 (by decide) (by decide)) (hM := rel_fr RM_m hr.hM f1 f2 (by decide) (by decide))⟩
theorem rop_Op38 : Op38 xRel := by
  intro C R x1 hr
  obtain ⟨v, R', e1, e2⟩ := op_papers FU_ok x1 hr.hM hr.hI
  have f1 : xfr [] C C := xfr.rf
  have f2 : xfr wr_X12_papers R R' := fr_X12_papers FU x1 R _ e2
  exact ⟨v, C, R', e1, e2, xRel.mk (hN := rel_fr RN_m hr.hN f1 f2 (by decide) (by decide)) (hI := rel_fr RI_m hr.hI f1 f2 (by decide) (by decide)) (hA := rel_fr RA_m hr.hA f1 f2 (by decide) (by decide)) (hS := rel_fr RS_m hr.hS f1 f2 (by decide) (by decide)) (hE := rel_fr RE_m hr.hE f1 f2 (by decide) (by decide)) (hC := rel_fr RC_m hr.hC f1 f2 (by decide) (by decide)) (hX := rel_fr RX_m hr.hX f1 f2 (by decide) (by decide)) (hP := rel_fr RP_m hr.hP f1 f2 (by decide) (by decide)) (hO := rel_fr RO_m hr.hO f1 f2 (by decide) (by decide)) (hF := rel_fr RF_m hr.hF f1 f2 (by decide) (by decide)) (hB := rel_fr RB_m hr.hB f1 f2 (by decide) (by decide)) (hQ := rel_fr RQ_m hr.hQ f1 f2 (by decide) (by decide)) (hT := rel_fr RT_m hr.hT f1 f2 (by decide) (by decide)) (hY := rel_fr (RY_m FU) hr.hY f1 f2 (by decide) (by decide)) (hZ := rel_fr RZ_m hr.hZ f1 f2 (by decide) (by decide)) (hM := rel_fr RM_m hr.hM f1 f2 (by decide) (by decide))⟩
theorem rop_Op39 : Op39 xRel := by
  intro C R x1 x2 hr
  obtain ⟨v, R', e1, e2⟩ := op_writtenFor FU_ok x1 x2 hr.hM hr.hI
  have f1 : xfr [] C C := xfr.rf
  have f2 : xfr wr_X12_writtenFor R R' := fr_X12_writtenFor FU x1 x2 R _ e2
  exact ⟨v, C, R', e1, e2, xRel.mk (hN := rel_fr RN_m hr.hN f1 f2 (by decide) (by decide)) (hI := rel_fr RI_m hr.hI f1 f2 (by decide) (by decide)) (hA := rel_fr RA_m hr.hA f1 f2 (by decide) (by decide)) (hS := rel_fr RS_m hr.hS f1 f2 (by decide) (by decide)) (hE := rel_fr RE_m hr.hE f1 f2 (by decide) (by decide)) (hC := rel_fr RC_m hr.hC f1 f2 (by decide) (by decide)) (hX := rel_fr RX_m hr.hX f1 f2 (by decide) (by decide)) (hP := rel_fr RP_m hr.hP f1 f2 (by decide) (by decide)) (hO := rel_fr RO_m hr.hO f1 f2 (by decide) (by decide)) (hF := rel_fr RF_m hr.hF f1 f2 (by decide) (by decide)) (hB := rel_fr RB_m hr.hB f1 f2 (by decide) (by decide)) (hQ := rel_fr RQ_m hr.hQ f1 f2 (by decide) (by decide)) (hT := rel_fr RT_m hr.hT f1 f2 (by decide) (by decide)) (hY := rel_fr (RY_m FU) hr.hY f1 f2 (by decide) (by decide)) (hZ := rel_fr RZ_m hr.hZ f1 f2 (by decide) (by decide)) (hM := rel_fr RM_m hr.hM f1 f2 (by decide) (by decide))⟩
theorem rop_Op40 : Op40 xRel := by
  intro C R hr
  obtain ⟨v, R', e1, e2⟩ := op_elected FU_ok  hr.hM hr.hI
  have f1 : xfr [] C C := xfr.rf
  have f2 : xfr wr_X12_elected R R' := fr_X12_elected FU R _ e2
  exact ⟨v, C, R', e1, e2, xRel.mk (hN := rel_fr RN_m hr.hN f1 f2 (by decide) (by decide)) (hI := rel_fr RI_m hr.hI f1 f2 (by decide) (by decide)) (hA := rel_fr RA_m hr.hA f1 f2 (by decide) (by decide)) (hS := rel_fr RS_m hr.hS f1 f2 (by decide) (by decide)) (hE := rel_fr RE_m hr.hE f1 f2 (by decide) (by decide)) (hC := rel_fr RC_m hr.hC f1 f2 (by decide) (by decide)) (hX := rel_fr RX_m hr.hX f1 f2 (by decide) (by decide)) (hP := rel_fr RP_m hr.hP f1 f2 (by decide) (by decide)) (hO := rel_fr RO_m hr.hO f1 f2 (by decide) (by decide)) (hF := rel_fr RF_m hr.hF f1 f2 (by decide) (by decide)) (hB := rel_fr RB_m hr.hB f1 f2 (by decide) (by decide)) (hQ := rel_fr RQ_m hr.hQ f1 f2 (by decide) (by decide)) (hT := rel_fr RT_m hr.hT f1 f2 (by decide) (by decide)) (hY := rel_fr (RY_m FU) hr.hY f1 f2 (by decide) (by decide)) (hZ := rel_fr RZ_m hr.hZ f1 f2 (by decide) (by decide)) (hM := rel_fr RM_m hr.hM f1 f2 (by decide) (by decide))⟩
theorem rop_Op41 : Op41 xRel := by
  intro C R x1 x2 x3 hr
  obtain ⟨v, C', R', e1, e2, gA⟩ := op_absent x1 x2 x3 hr.hN hr.hA
  have f1 : xfr wr_X11_absent C C' := fr_X11_absent x1 x2 x3 C _ e1
  have f2 : xfr wr_X12_absent R R' := fr_X12_absent x1 x2 x3 R _ e2
  exact ⟨v, C', R', e1, e2, xRel.mk (hN := rel_fr RN_m hr.hN f1 f2 (by decide) (by decide)) (hI := rel_fr RI_m hr.hI f1 f2 (by decide) (by decide)) (hA := gA) (hS := rel_fr RS_m hr.hS f1 f2 (by decide) (by decide)) (hE := rel_fr RE_m hr.hE f1 f2 (by decide) (by decide)) (hC := rel_fr RC_m hr.hC f1 f2 (by decide) (by decide)) (hX := rel_fr RX_m hr.hX f1 f2 (by decide) (by decide)) (hP := rel_fr RP_m hr.hP f1 f2 (by decide) (by decide)) (hO := rel_fr RO_m hr.hO f1 f2 (by decide) (by decide)) (hF := rel_fr RF_m hr.hF f1 f2 (by decide) (by decide)) (hB := rel_fr RB_m hr.hB f1 f2 (by decide) (by decide)) (hQ := rel_fr RQ_m hr.hQ f1 f2 (by decide) (by decide)) (hT := rel_fr RT_m hr.hT f1 f2 (by decide) (by decide)) (hY := rel_fr (RY_m FU) hr.hY f1 f2 (by decide) (by decide)) (hZ := rel_fr RZ_m hr.hZ f1 f2 (by decide) (by decide)) (hM := rel_fr RM_m hr.hM f1 f2 (by decide) (by decide))⟩
theorem rop_Op42 : Op42 xRel := by
  intro C R x1 x2 hr
  obtain ⟨lv, on, mn, hW⟩ := FW.mk' hr.hN hr.hO hr.hF hr.hS hr.hQ hr.hC hr.hY
  obtain ⟨v, C', R', e1, e2⟩ := op_joinedAhead FU_ok x1 x2 hW hr.hA
  have f1 : xfr wr_X11_joinedAhead C C' := fr_X11_joinedAhead FU x1 x2 C _ e1
  have f2 : xfr wr_X12_joinedAhead R R' := fr_X12_joinedAhead FU x1 x2 R _ e2
  exact ⟨v, C', R', e1, e2, xRel.mk (hN := rel_fr RN_m hr.hN f1 f2 (by decide) (by decide)) (hI := rel_fr RI_m hr.hI f1 f2 (by decide) (by decide)) (hA := rel_fr RA_m hr.hA f1 f2 (by decide) (by decide)) (hS := rel_fr RS_m hr.hS f1 f2 (by decide) (by decide)) (hE := rel_fr RE_m hr.hE f1 f2 (by decide) (by decide)) (hC := rel_fr RC_m hr.hC f1 f2 (by decide) (by decide)) (hX := rel_fr RX_m hr.hX f1 f2 (by decide) (by decide)) (hP := rel_fr RP_m hr.hP f1 f2 (by decide) (by decide)) (hO := rel_fr RO_m hr.hO f1 f2 (by decide) (by decide)) (hF := rel_fr RF_m hr.hF f1 f2 (by decide) (by decide)) (hB := rel_fr RB_m hr.hB f1 f2 (by decide) (by decide)) (hQ := rel_fr RQ_m hr.hQ f1 f2 (by decide) (by decide)) (hT := rel_fr RT_m hr.hT f1 f2 (by decide) (by decide)) (hY := rel_fr (RY_m FU) hr.hY f1 f2 (by decide) (by decide)) (hZ := rel_fr RZ_m hr.hZ f1 f2 (by decide) (by decide)) (hM := rel_fr RM_m hr.hM f1 f2 (by decide) (by decide))⟩
theorem rop_Op43 : Op43 xRel := by
  intro C R x1 x2 x3 x4 hr
  obtain ⟨v, C', R', e1, e2, gE⟩ := op_event x1 x2 x3 x4 hr.hN hr.hE
  have f1 : xfr wr_X11_event C C' := fr_X11_event x1 x2 x3 x4 C _ e1
  have f2 : xfr wr_X12_event R R' := fr_X12_event x1 x2 x3 x4 R _ e2
  exact ⟨v, C', R', e1, e2, xRel.mk (hN := rel_fr RN_m hr.hN f1 f2 (by decide) (by decide)) (hI := rel_fr RI_m hr.hI f1 f2 (by decide) (by decide)) (hA := rel_fr RA_m hr.hA f1 f2 (by decide) (by decide)) (hS := rel_fr RS_m hr.hS f1 f2 (by decide) (by decide)) (hE := gE) (hC := rel_fr RC_m hr.hC f1 f2 (by decide) (by decide)) (hX := rel_fr RX_m hr.hX f1 f2 (by decide) (by decide)) (hP := rel_fr RP_m hr.hP f1 f2 (by decide) (by decide)) (hO := rel_fr RO_m hr.hO f1 f2 (by decide) (by decide)) (hF := rel_fr RF_m hr.hF f1 f2 (by decide) (by decide)) (hB := rel_fr RB_m hr.hB f1 f2 (by decide) (by decide)) (hQ := rel_fr RQ_m hr.hQ f1 f2 (by decide) (by decide)) (hT := rel_fr RT_m hr.hT f1 f2 (by decide) (by decide)) (hY := rel_fr (RY_m FU) hr.hY f1 f2 (by decide) (by decide)) (hZ := rel_fr RZ_m hr.hZ f1 f2 (by decide) (by decide)) (hM := rel_fr RM_m hr.hM f1 f2 (by decide) (by decide))⟩
theorem rop_Op44 : Op44 xRel := by
  intro C R x1 hr
  obtain ⟨v, C', R', e1, e2⟩ := op_badOnes FU_ok x1 hr.hN hr.hE
  have f1 : xfr wr_X11_badOnes C C' := fr_X11_badOnes FU x1 C _ e1
  have f2 : xfr wr_X12_badOnes R R' := fr_X12_badOnes FU x1 R _ e2
  exact ⟨v, C', R', e1, e2, xRel.mk (hN := rel_fr RN_m hr.hN f1 f2 (by decide) (by decide)) (hI := rel_fr RI_m hr.hI f1 f2 (by decide) (by decide)) (hA := rel_fr RA_m hr.hA f1 f2 (by decide) (by decide)) (hS := rel_fr RS_m hr.hS f1 f2 (by decide) (by decide)) (hE := rel_fr RE_m hr.hE f1 f2 (by decide) (by decide)) (hC := rel_fr RC_m hr.hC f1 f2 (by decide) (by decide)) (hX := rel_fr RX_m hr.hX f1 f2 (by decide) (by decide)) (hP := rel_fr RP_m hr.hP f1 f2 (by decide) (by decide)) (hO := rel_fr RO_m hr.hO f1 f2 (by decide) (by decide)) (hF := rel_fr RF_m hr.hF f1 f2 (by decide) (by decide)) (hB := rel_fr RB_m hr.hB f1 f2 (by decide) (by decide)) (hQ := rel_fr RQ_m hr.hQ f1 f2 (by decide) (by decide)) (hT := rel_fr RT_m hr.hT f1 f2 (by decide) (by decide)) (hY := rel_fr (RY_m FU) hr.hY f1 f2 (by decide) (by decide)) (hZ := rel_fr RZ_m hr.hZ f1 f2 (by decide) (by decide)) (hM := rel_fr RM_m hr.hM f1 f2 (by decide) (by decide))⟩
theorem rop_Op45 : Op45 xRel := by
  intro C R x1 x2 x3 hr
  obtain ⟨v, C', R', e1, e2⟩ := op_exposed FU_ok x1 x2 x3 hr.hN hr.hE
  have f1 : xfr wr_X11_exposed C C' := fr_X11_exposed FU x1 x2 x3 C _ e1
  have f2 : xfr wr_X12_exposed R R' := fr_X12_exposed FU x1 x2 x3 R _ e2
  exact ⟨v, C', R', e1, e2, xRel.mk (hN := rel_fr RN_m hr.hN f1 f2 (by decide) (by decide)) (hI := rel_fr RI_m hr.hI f1 f2 (by decide) (by decide)) (hA := rel_fr RA_m hr.hA f1 f2 (by decide) (by decide)) (hS := rel_fr RS_m hr.hS f1 f2 (by decide) (by decide)) (hE := rel_fr RE_m hr.hE f1 f2 (by decide) (by decide)) (hC := rel_fr RC_m hr.hC f1 f2 (by decide) (by decide)) (hX := rel_fr RX_m hr.hX f1 f2 (by decide) (by decide)) (hP := rel_fr RP_m hr.hP f1 f2 (by decide) (by decide)) (hO := rel_fr RO_m hr.hO f1 f2 (by decide) (by decide)) (hF := rel_fr RF_m hr.hF f1 f2 (by decide) (by decide)) (hB := rel_fr RB_m hr.hB f1 f2 (by decide) (by decide)) (hQ := rel_fr RQ_m hr.hQ f1 f2 (by decide) (by decide)) (hT := rel_fr RT_m hr.hT f1 f2 (by decide) (by decide)) (hY := rel_fr (RY_m FU) hr.hY f1 f2 (by decide) (by decide)) (hZ := rel_fr RZ_m hr.hZ f1 f2 (by decide) (by decide)) (hM := rel_fr RM_m hr.hM f1 f2 (by decide) (by decide))⟩
theorem rop_Op46 : Op46 xRel := by
  intro C R x1 x2 hr
  obtain ⟨v, e1, e2⟩ := op_placeAt FU_ok x1 x2 hr.hN hr.hE
  have f1 : xfr [] C C := xfr.rf
  have f2 : xfr [(0, some 0)] R (xset R 0 0 0) := xfr.setf xfr.rf rfl
  exact ⟨v, C, (xset R 0 0 0), e1, e2, xRel.mk (hN := rel_fr RN_m hr.hN f1 f2 (by decide) (by decide)) (hI := rel_fr RI_m hr.hI f1 f2 (by decide) (by decide)) (hA := rel_fr RA_m hr.hA f1 f2 (by decide) (by decide)) (hS := rel_fr RS_m hr.hS f1 f2 (by decide) (by decide)) (hE := rel_fr RE_m hr.hE f1 f2 (by decide) (by decide)) (hC := rel_fr RC_m hr.hC f1 f2 (by decide) (by decide)) (hX := rel_fr RX_m hr.hX f1 f2 (by decide) (by decide)) (hP := rel_fr RP_m hr.hP f1 f2 (by decide) (by decide)) (hO := rel_fr RO_m hr.hO f1 f2 (by decide) (by decide)) (hF := rel_fr RF_m hr.hF f1 f2 (by decide) (by decide)) (hB := rel_fr RB_m hr.hB f1 f2 (by decide) (by decide)) (hQ := rel_fr RQ_m hr.hQ f1 f2 (by decide) (by decide)) (hT := rel_fr RT_m hr.hT f1 f2 (by decide) (by decide)) (hY := rel_fr (RY_m FU) hr.hY f1 f2 (by decide) (by decide)) (hZ := rel_fr RZ_m hr.hZ f1 f2 (by decide) (by decide)) (hM := rel_fr RM_m hr.hM f1 f2 (by decide) (by decide))⟩
theorem rop_Op47 : Op47 xRel := by
  intro C R x1 x2 x3 x4 hr
  obtain ⟨v, C', R', e1, e2⟩ := op_alone FU_ok x1 x2 x3 x4 hr.hN hr.hE
  have f1 : xfr wr_X11_alone C C' := fr_X11_alone FU x1 x2 x3 x4 C _ e1
  have f2 : xfr wr_X12_alone R R' := fr_X12_alone FU x1 x2 x3 x4 R _ e2
  exact ⟨v, C', R', e1, e2, xRel.mk (hN := rel_fr RN_m hr.hN f1 f2 (by decide) (by decide)) (hI := rel_fr RI_m hr.hI f1 f2 (by decide) (by decide)) (hA := rel_fr RA_m hr.hA f1 f2 (by decide) (by decide)) (hS := rel_fr RS_m hr.hS f1 f2 (by decide) (by decide)) (hE := rel_fr RE_m hr.hE f1 f2 (by decide) (by decide)) (hC := rel_fr RC_m hr.hC f1 f2 (by decide) (by decide)) (hX := rel_fr RX_m hr.hX f1 f2 (by decide) (by decide)) (hP := rel_fr RP_m hr.hP f1 f2 (by decide) (by decide)) (hO := rel_fr RO_m hr.hO f1 f2 (by decide) (by decide)) (hF := rel_fr RF_m hr.hF f1 f2 (by decide) (by decide)) (hB := rel_fr RB_m hr.hB f1 f2 (by decide) (by decide)) (hQ := rel_fr RQ_m hr.hQ f1 f2 (by decide) (by decide)) (hT := rel_fr RT_m hr.hT f1 f2 (by decide) (by decide)) (hY := rel_fr (RY_m FU) hr.hY f1 f2 (by decide) (by decide)) (hZ := rel_fr RZ_m hr.hZ f1 f2 (by decide) (by decide)) (hM := rel_fr RM_m hr.hM f1 f2 (by decide) (by decide))⟩
theorem rop_Op48 : Op48 xRel := by
  intro C R x1 x2 x3 hr
  obtain ⟨v, C', R', e1, e2, gS⟩ := op_recount x1 x2 x3 hr.hN hr.hS
  have f1 : xfr wr_X11_recount C C' := fr_X11_recount x1 x2 x3 C _ e1
  have f2 : xfr wr_X12_recount R R' := fr_X12_recount x1 x2 x3 R _ e2
  exact ⟨v, C', R', e1, e2, xRel.mk (hN := rel_fr RN_m hr.hN f1 f2 (by decide) (by decide)) (hI := rel_fr RI_m hr.hI f1 f2 (by decide) (by decide)) (hA := rel_fr RA_m hr.hA f1 f2 (by decide) (by decide)) (hS := gS) (hE := rel_fr RE_m hr.hE f1 f2 (by decide) (by decide)) (hC := rel_fr RC_m hr.hC f1 f2 (by decide) (by decide)) (hX := rel_fr RX_m hr.hX f1 f2 (by decide) (by decide)) (hP := rel_fr RP_m hr.hP f1 f2 (by decide) (by decide)) (hO := rel_fr RO_m hr.hO f1 f2 (by decide) (by decide)) (hF := rel_fr RF_m hr.hF f1 f2 (by decide) (by decide)) (hB := rel_fr RB_m hr.hB f1 f2 (by decide) (by decide)) (hQ := rel_fr RQ_m hr.hQ f1 f2 (by decide) (by decide)) (hT := rel_fr RT_m hr.hT f1 f2 (by decide) (by decide)) (hY := rel_fr (RY_m FU) hr.hY f1 f2 (by decide) (by decide)) (hZ := rel_fr RZ_m hr.hZ f1 f2 (by decide) (by decide)) (hM := rel_fr RM_m hr.hM f1 f2 (by decide) (by decide))⟩
theorem rop_Op49 : Op49 xRel := by
  intro C R x1 x2 x3 hr
  have e2 := op_kept x1 x2 x3 hr.hN hr.hS
  have f1 : xfr [] C C := xfr.rf
  have f2 : xfr [(0, some 0)] R (xset R 0 0 0) := xfr.setf xfr.rf rfl
  exact ⟨_, C, (xset R 0 0 0), rfl, e2, xRel.mk (hN := rel_fr RN_m hr.hN f1 f2 (by decide) (by decide)) (hI := rel_fr RI_m hr.hI f1 f2 (by decide) (by decide)) (hA := rel_fr RA_m hr.hA f1 f2 (by decide) (by decide)) (hS := rel_fr RS_m hr.hS f1 f2 (by decide) (by decide)) (hE := rel_fr RE_m hr.hE f1 f2 (by decide) (by decide)) (hC := rel_fr RC_m hr.hC f1 f2 (by decide) (by decide)) (hX := rel_fr RX_m hr.hX f1 f2 (by decide) (by decide)) (hP := rel_fr RP_m hr.hP f1 f2 (by decide) (by decide)) (hO := rel_fr RO_m hr.hO f1 f2 (by decide) (by decide)) (hF := rel_fr RF_m hr.hF f1 f2 (by decide) (by decide)) (hB := rel_fr RB_m hr.hB f1 f2 (by decide) (by decide)) (hQ := rel_fr RQ_m hr.hQ f1 f2 (by decide) (by decide)) (hT := rel_fr RT_m hr.hT f1 f2 (by decide) (by decide)) (hY := rel_fr (RY_m FU) hr.hY f1 f2 (by decide) (by decide)) (hZ := rel_fr RZ_m hr.hZ f1 f2 (by decide) (by decide)) (hM := rel_fr RM_m hr.hM f1 f2 (by decide) (by decide))⟩
theorem rop_Op50 : Op50 xRel := by
  intro C R x1 x2 hr
  obtain ⟨v, e1, e2⟩ := op_changed FU_ok x1 x2 hr.hN hr.hS
  have f1 : xfr [] C C := xfr.rf
  have f2 : xfr [(0, some 0)] R (xset R 0 0 0) := xfr.setf xfr.rf rfl
  exact ⟨v, C, (xset R 0 0 0), e1, e2, xRel.mk (hN := rel_fr RN_m hr.hN f1 f2 (by decide) (by decide)) (hI := rel_fr RI_m hr.hI f1 f2 (by decide) (by decide)) (hA := rel_fr RA_m hr.hA f1 f2 (by decide) (by decide)) (hS := rel_fr RS_m hr.hS f1 f2 (by decide) (by decide)) (hE := rel_fr RE_m hr.hE f1 f2 (by decide) (by decide)) (hC := rel_fr RC_m hr.hC f1 f2 (by decide) (by decide)) (hX := rel_fr RX_m hr.hX f1 f2 (by decide) (by decide)) (hP := rel_fr RP_m hr.hP f1 f2 (by decide) (by decide)) (hO := rel_fr RO_m hr.hO f1 f2 (by decide) (by decide)) (hF := rel_fr RF_m hr.hF f1 f2 (by decide) (by decide)) (hB := rel_fr RB_m hr.hB f1 f2 (by decide) (by decide)) (hQ := rel_fr RQ_m hr.hQ f1 f2 (by decide) (by decide)) (hT := rel_fr RT_m hr.hT f1 f2 (by decide) (by decide)) (hY := rel_fr (RY_m FU) hr.hY f1 f2 (by decide) (by decide)) (hZ := rel_fr RZ_m hr.hZ f1 f2 (by decide) (by decide)) (hM := rel_fr RM_m hr.hM f1 f2 (by decide) (by decide))⟩
theorem rop_Op51 : Op51 xRel := by
  intro C R x1 hr
  obtain ⟨v, e1, e2⟩ := op_differs FU_ok x1 hr.hN hr.hS
  have f1 : xfr [] C C := xfr.rf
  have f2 : xfr [(0, some 0)] R (xset R 0 0 0) := xfr.setf xfr.rf rfl
  exact ⟨v, C, (xset R 0 0 0), e1, e2, xRel.mk (hN := rel_fr RN_m hr.hN f1 f2 (by decide) (by decide)) (hI := rel_fr RI_m hr.hI f1 f2 (by decide) (by decide)) (hA := rel_fr RA_m hr.hA f1 f2 (by decide) (by decide)) (hS := rel_fr RS_m hr.hS f1 f2 (by decide) (by decide)) (hE := rel_fr RE_m hr.hE f1 f2 (by decide) (by decide)) (hC := rel_fr RC_m hr.hC f1 f2 (by decide) (by decide)) (hX := rel_fr RX_m hr.hX f1 f2 (by decide) (by decide)) (hP := rel_fr RP_m hr.hP f1 f2 (by decide) (by decide)) (hO := rel_fr RO_m hr.hO f1 f2 (by decide) (by decide)) (hF := rel_fr RF_m hr.hF f1 f2 (by decide) (by decide)) (hB := rel_fr RB_m hr.hB f1 f2 (by decide) (by decide)) (hQ := rel_fr RQ_m hr.hQ f1 f2 (by decide) (by decide)) (hT := rel_fr RT_m hr.hT f1 f2 (by decide) (by decide)) (hY := rel_fr (RY_m FU) hr.hY f1 f2 (by decide) (by decide)) (hZ := rel_fr RZ_m hr.hZ f1 f2 (by decide) (by decide)) (hM := rel_fr RM_m hr.hM f1 f2 (by decide) (by decide))⟩
theorem rop_Op52 : Op52 xRel := by
  intro C R x1 hr
  obtain ⟨v, C', R', e1, e2, gS⟩ := op_take FU_ok x1 hr.hN hr.hS
  have f1 : xfr wr_X11_take C C' := fr_X11_take FU x1 C _ e1
  have f2 : xfr wr_X12_take R R' := fr_X12_take FU x1 R _ e2
  exact ⟨v, C', R', e1, e2, xRel.mk (hN := rel_fr RN_m hr.hN f1 f2 (by decide) (by decide)) (hI := rel_fr RI_m hr.hI f1 f2 (by decide) (by decide)) (hA := rel_fr RA_m hr.hA f1 f2 (by decide) (by decide)) (hS := gS) (hE := rel_fr RE_m hr.hE f1 f2 (by decide) (by decide)) (hC := rel_fr RC_m hr.hC f1 f2 (by decide) (by decide)) (hX := rel_fr RX_m hr.hX f1 f2 (by decide) (by decide)) (hP := rel_fr RP_m hr.hP f1 f2 (by decide) (by decide)) (hO := rel_fr RO_m hr.hO f1 f2 (by decide) (by decide)) (hF := rel_fr RF_m hr.hF f1 f2 (by decide) (by decide)) (hB := rel_fr RB_m hr.hB f1 f2 (by decide) (by decide)) (hQ := rel_fr RQ_m hr.hQ f1 f2 (by decide) (by decide)) (hT := rel_fr RT_m hr.hT f1 f2 (by decide) (by decide)) (hY := rel_fr (RY_m FU) hr.hY f1 f2 (by decide) (by decide)) (hZ := rel_fr RZ_m hr.hZ f1 f2 (by decide) (by decide)) (hM := rel_fr RM_m hr.hM f1 f2 (by decide) (by decide))⟩
theorem rop_Op53 : Op53 xRel := by
  intro C R x1 hr
  have e2 := op_count x1 hr.hN (RU_of hr.hY)
  have f1 : xfr [] C C := xfr.rf
  have f2 : xfr [(0, some 0)] R (xset R 0 0 0) := xfr.setf xfr.rf rfl
  exact ⟨_, C, (xset R 0 0 0), rfl, e2, xRel.mk (hN := rel_fr RN_m hr.hN f1 f2 (by decide) (by decide)) (hI := rel_fr RI_m hr.hI f1 f2 (by decide) (by decide)) (hA := rel_fr RA_m hr.hA f1 f2 (by decide) (by decide)) (hS := rel_fr RS_m hr.hS f1 f2 (by decide) (by decide)) (hE := rel_fr RE_m hr.hE f1 f2 (by decide) (by decide)) (hC := rel_fr RC_m hr.hC f1 f2 (by decide) (by decide)) (hX := rel_fr RX_m hr.hX f1 f2 (by decide) (by decide)) (hP := rel_fr RP_m hr.hP f1 f2 (by decide) (by decide)) (hO := rel_fr RO_m hr.hO f1 f2 (by decide) (by decide)) (hF := rel_fr RF_m hr.hF f1 f2 (by decide) (by decide)) (hB := rel_fr RB_m hr.hB f1 f2 (by decide) (by decide)) (hQ := rel_fr RQ_m hr.hQ f1 f2 (by decide) (by decide)) (hT := rel_fr RT_m hr.hT f1 f2 (by decide) (by decide)) (hY := rel_fr (RY_m FU) hr.hY f1 f2 (by decide) (by decide)) (hZ := rel_fr RZ_m hr.hZ f1 f2 (by decide) (by decide)) (hM := rel_fr RM_m hr.hM f1 f2 (by decide) (by decide))⟩
theorem ops_ok : OpsOK xRel := ⟨rop_Op0, rop_Op1, rop_Op2, rop_Op3, rop_Op4, rop_Op5, rop_Op6, rop_Op7, rop_Op8, rop_Op9, rop_Op10, rop_Op11, rop_Op12, rop_Op13, rop_Op14, rop_Op15, rop_Op16, rop_Op17, rop_Op18, rop_Op19, rop_Op20, rop_Op21, rop_Op22, rop_Op23, rop_Op24, rop_Op25, rop_Op26, rop_Op27, rop_Op28, rop_Op29, rop_Op30, rop_Op31, rop_Op32, rop_Op33, rop_Op34, rop_Op35, rop_Op36, rop_Op37, rop_Op38, rop_Op39, rop_Op40, rop_Op41, rop_Op42, rop_Op43, rop_Op44, rop_Op45, rop_Op46, rop_Op47, rop_Op48, rop_Op49, rop_Op50, rop_Op51, rop_Op52, rop_Op53⟩
end OPS
