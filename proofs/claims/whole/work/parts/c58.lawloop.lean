/-! THE CLAIM OUT OF ONE WALK OF THE LAW'S BODY. Your part is whole_start (and what it stands on); all else here is the same for every law, but numbers. -/
def R_law : String := "LeverCurtainLaw"
def lw_P (b : Addr) (xs : List Int32) (args : Array Value) (s : State) : Prop := args = #[.ref b] ∧ s.IntsAt b xs ∧ xs.length ≤ 3073 ∧ (Jvm.Cond.and given_1 narrow_1).before args s = true
def lw_Q (_ : Array Value) (s : State) (o : Outcome) (t : State) : Prop := o = .returned (some (.int 1)) ∧ Framed s o t [] 600000 7302250
def lw_Z (below : List Frame) (a : Array Value) (s : State) : State → Prop := fun t => ∃ o, t.status = .running ∧ Ended t below o ∧ lw_Q a s o t
/-- the law's own end, with 1 on the stack, nothing written that was there before, its room as the claim has it -/
theorem lw_ret {p : Program} {l : Launch} {e : Env} {s : State} {m : MethodId} {below : List Frame} {meth : Method} {c : Code} {b : Nat} (hx : p.tables.exec = Jvm.exec) (hb : c.code = code) (hr : meth.sig.returnType = ret) (hlocks : meth.locks = false) {pc : Nat} {H : Heap} {ls : Array Slot} (hdg : decode code pc = .ok (.ireturn, 1)) : W p l e room_1 s m #[Value.ref b] below meth c H [] 600000 7302250 (lw_Z below #[Value.ref b] s) (F0 m pc ls [.int 1]) := by
  intro T hT X
  obtain ⟨fs, hret, hrun, hended, hW, hframe⟩ := X.leave (v := some (.int 1)) (hlocks := hlocks) (fun h => by rw [hr] at h; cases h)
  have hmeth' : T.vm.method? m = some meth := X.method'
  refine ⟨T.setFrames fs, ?_, .returned (some (.int 1)), hrun, hended, rfl, ⟨_, rfl⟩, hW, hframe⟩
  jvm_step X.here [X.here.top, hx, hb, hdg, hmeth', hr, ret, narrow_b1]
  (try refine ⟨rfl, ?_⟩); (try refine ⟨rfl, ?_⟩)
  first | (intro acts; rw [hret _ acts rfl rfl rfl]) | rw [hret _ _ rfl rfl rfl]
  exact Steps.refl _
/-- what holds at the law's entry: the machine, the code, the tables' words (any of lw_tbl by 'hts w (by decide +kernel)'), the script of L ints xs at the cell b, what the Statement gives of the start (any of its parts by flat_of_before) -/
def lw_At (p : Program) (s : State) (m : MethodId) (meth : Method) (c : Code) (b L : Nat) (xs : Nat → Int32) : Prop :=
  p.tables.exec = Jvm.exec ∧ c.code = code ∧ meth.sig.returnType = ret ∧ c.maxLocals = 4 ∧ s.vm.findClass R_law = some m.cls ∧ (∀ w ∈ lw_tbl, w.before #[Value.ref b] s = true) ∧ va_X b L xs s s.heap ∧ b < s.heap.size ∧ meth.locks = false ∧ (Jvm.Cond.and given_1 narrow_1).before #[Value.ref b] s = true
def xcell (L : Nat) (xs : Nat → Int32) : Int32 := if 0 < L then xs 0 else 0
set_option maxHeartbeats 4000000 in
set_option maxRecDepth 100000 in
theorem c_cell (l : Launch) (b L : Nat) (xs : Nat → Int32) (hL : L < 2 ^ 31) : Met l yL_cell (xws yL_cell cL_cell 2 (some .int)) (xRm 0) (va_Pc [.ref b, .int 0] (fun U => va_X b L xs U U.heap)) (va_Qi (fun (r : Int32) (_ : Unit) => r = xcell L xs) (fun _ _ => True) (fun _ => False)) 0 0 (fun _ => False) := by
  refine Met.ofW (cc := cL_cell) (maxL := 2) (ret := (some .int)) (by decide +kernel) rfl ?_
  intro p e s m args below meth c s₁ B hml hv
  obtain ⟨rfl, hX⟩ := hv
  have hx := B.exec
  have hb := B.bytes
  have hr := B.returns
  have hlocks := B.notSynchronized
  have hbl : b < s.heap.size := by
    obtain ⟨scr, h1, -⟩ := hX
    exact (Array.getElem?_eq_some_iff.mp h1).1
  have hS : va_S (fun _ => False) s.heap s.heap [] := va_S.rf
  have hbA : ¬ (fun _ : Nat => False) b := fun h => h
  have hl := lv_entry ([.ref b, .int 0]) (n := 2) (Nat.le_of_ble_eq_true rfl)
  rw [lg_entry_eq]
  generalize (lg_sl ([.ref b, .int 0]) ++ List.replicate (2 - (lg_sl ([.ref b, .int 0])).length) Slot.unset).toArray = ls at hl ⊢
  have hl : lv_has ls 2 [(0, .ref b), (1, .int 0)] := hl
  refine lv_iload_n hx hb dL_cell_0 rfl (lv_at hl 1 rfl) ?_
  refine lv_aload_n hx hb dL_cell_1 rfl (lv_at hl 0 rfl) ?_
  refine va_slen hx hb hX hbl hbA hS dL_cell_2 ?_
  refine lv_icmp_ge (tgt := 12) hx hb dL_cell_3 (by decide) (fun h => ?_) (fun h => ?_)
  · have h0 : ¬ 0 < L := fun z => absurd h (by rw [show (0 : Int32) = nI 0 from rfl]; exact nI_ge z hL)
    refine lv_iconst (v := (0 : Int32)) hx hb dL_cell_12 (by decide) ?_
    exact W.iret (v := 0) hx hb hr (fun t ht hW => ⟨⟨0, (), rfl, by rw [xcell, if_neg h0], trivial⟩, hS.F ht⟩) hS.2.2 dL_cell_13
  · have h0 : 0 < L := by
      rcases Nat.eq_zero_or_pos L with z | z
      · subst z
        exact absurd (by decide) h
      · exact z
    refine lv_aload_n hx hb dL_cell_6 rfl (lv_at hl 0 rfl) ?_
    refine lv_iload_n hx hb dL_cell_7 rfl (lv_at hl 1 rfl) ?_
    refine va_sld hx hb hX hbl hbA hS (i := 0) (by rw [show (0 : Int32) = nI 0 from rfl]; exact vp_in_nI h0 hL) dL_cell_8 ?_
    refine lv_goto (tgt := 13) hx hb dL_cell_9 (by decide) ?_
    exact W.iret (v := xs 0) hx hb hr (fun t ht hW => ⟨⟨xs 0, (), rfl, by rw [xcell, if_pos h0], trivial⟩, hS.F ht⟩) hS.2.2 dL_cell_13
theorem xgt {L j : Nat} (hL : L ≤ 3073) (hj : j ≤ 4000) (h : ¬ (Int32.ofNat L - 6 < nI j)) : j + 6 ≤ L := by
  have e : (nI L - nI 6).toInt = (L : Int) - (6 : Nat) := pk_sub_toInt (by omega) (by decide)
  rw [Int32.lt_iff_toInt_lt, nI_toInt (by omega : j < 2 ^ 31)] at h
  have e2 : (Int32.ofNat L - 6).toInt = (L : Int) - 6 := e
  omega
set_option maxHeartbeats 8000000 in
set_option maxRecDepth 100000 in
theorem law_loop {p : Program} {l : Launch} {e : Env} {s : State} {m : MethodId} {below : List Frame} {meth : Method} {c : Code} {b Lb : Nat} {xs : Nat → Int32} {D : va_G} {cA : Nat → ClassId} {aC aM : Nat → Nat} {Rel : xM → xM → Prop} (hops : OpsOK Rel) (hLaw : xLaw p s m meth c b Lb xs D cA aC aM) (hX : va_X b Lb xs s s.heap) (hbl : b < s.heap.size) (hL : Lb ≤ 3073) (hr : meth.sig.returnType = ret) (hlocks : meth.locks = false) :
    ∀ (k j : Nat), Lb + 7 - j = k → j ≤ Lb + 7 → ∀ (C R : xM), Rel C R → ∀ (H : Heap) (locs : List Loc), xBoth s D cA aC aM C R H locs → ∀ ls : Array Slot, lv_has ls 4 (xLoc aC aM b j) → W p l e room_1 s m #[Value.ref b] below meth c H locs 600000 7302250 (lw_Z below #[Value.ref b] s) (F0 m 28 ls []) := by
  intro k
  induction k using Nat.strongRecOn with
  | ind k ih =>
    intro j hk hj C R hrel H locs hB ls hl
    obtain ⟨hCF, -⟩ := id hLaw
    obtain ⟨hPC, hPM, hS⟩ := id hB
    obtain ⟨hx, hb, hml, hown, hts⟩ := id hCF
    have hbA : ¬ (fun q => s.heap.size ≤ q) b := Nat.not_le.mpr hbl
    refine lv_iload_n hx hb dL_law_28 rfl (lv_at hl 3 rfl) ?_
    refine lv_aload_n hx hb dL_law_29 rfl (lv_at hl 0 rfl) ?_
    refine va_slen hx hb hX hbl hbA hS dL_law_30 ?_
    refine lv_bipush (v := (6 : Int32)) hx hb dL_law_31 (by decide) ?_
    refine lv_isub hx hb dL_law_33 ?_
    refine lv_icmp_gt (tgt := 2050) hx hb dL_law_34 (by decide) (fun _ => ?_) (fun hle => ?_)
    · refine lv_iconst (v := (1 : Int32)) hx hb dL_law_2050 (by decide) ?_
      refine va_forget (fun q hq => hS.2.2 q hq) ?_
      exact lw_ret hx hb hr hlocks dL_law_2051
    have hle6 := xgt hL (by omega) hle
    have h0 : vp_in (nI j) Lb := vp_in_nI (by omega) (by omega)
    have h1 : vp_in (nI j + 1) Lb := by rw [show nI j + 1 = nI (j + 1) from nI_add j 1]; exact vp_in_nI (by omega) (by omega)
    have h2 : vp_in (nI j + 2) Lb := by rw [show nI j + 2 = nI (j + 2) from nI_add j 2]; exact vp_in_nI (by omega) (by omega)
    have h3 : vp_in (nI j + 3) Lb := by rw [show nI j + 3 = nI (j + 3) from nI_add j 3]; exact vp_in_nI (by omega) (by omega)
    have h4 : vp_in (nI j + 4) Lb := by rw [show nI j + 4 = nI (j + 4) from nI_add j 4]; exact vp_in_nI (by omega) (by omega)
    have h5 : vp_in (nI j + 5) Lb := by rw [show nI j + 5 = nI (j + 5) from nI_add j 5]; exact vp_in_nI (by omega) (by omega)
    have back : ∀ (C R : xM) (H : Heap) (locs : List Loc), Rel C R → xBoth s D cA aC aM C R H locs → W p l e room_1 s m #[Value.ref b] below meth c H locs 600000 7302250 (lw_Z below #[Value.ref b] s) (F0 m 2044 ls []) := by
      intro C R H locs hrel hB
      refine lv_iinc (v := nI (j + 6)) (lv' := [(3, .int (nI (j + 6))), (0, .ref b), (1, .ref (aC 0)), (2, .ref (aM 0))]) hx hb dL_law_2044 hl (k := 3) rfl (nI_add j 6) (by decide) rfl (fun ls hl => ?_)
      refine lv_goto (tgt := 28) hx hb dL_law_2047 (by decide) ?_
      exact ih (Lb + 7 - (j + 6)) (by omega) (j + 6) rfl (by omega) C R hrel H locs hB ls (lv_sub hl [1, 2, 3, 0] rfl)
    refine lv_aload_n hx hb dL_law_37 rfl (lv_at hl 0 rfl) ?_
    refine lv_iload_n hx hb dL_law_38 rfl (lv_at hl 3 rfl) ?_
    refine va_sld hx hb hX hbl hbA hS (i := nI j) h0 dL_law_39 ?_
    refine lv_bipush (v := (63 : Int32)) hx hb dL_law_40 (by decide) ?_
    refine lv_iand hx hb dL_law_42 ?_
    refine lv_topi (fun y _ => ?_)
    by_cases e0 : y = 0
    · refine lv_tableIn (off := 229) (tgt := 272) hx hb dL_law_43 (by rw [e0]; decide) (by rw [e0]; decide) (by rw [e0]; rfl) (by decide) ?_
      exact law_op0 hops.1 hLaw hX hbl h1 h2 h3 h4 h5 hrel ⟨hPC, hPM, hS⟩ hl back
    by_cases e1 : y = 1
    · refine lv_tableIn (off := 262) (tgt := 305) hx hb dL_law_43 (by rw [e1]; decide) (by rw [e1]; decide) (by rw [e1]; rfl) (by decide) ?_
      exact law_op1 hops.2.1 hLaw hX hbl h1 h2 h3 h4 h5 hrel ⟨hPC, hPM, hS⟩ hl back
    by_cases e2 : y = 2
    · refine lv_tableIn (off := 295) (tgt := 338) hx hb dL_law_43 (by rw [e2]; decide) (by rw [e2]; decide) (by rw [e2]; rfl) (by decide) ?_
      exact law_op2 hops.2.2.1 hLaw hX hbl h1 h2 h3 h4 h5 hrel ⟨hPC, hPM, hS⟩ hl back
    by_cases e3 : y = 3
    · refine lv_tableIn (off := 308) (tgt := 351) hx hb dL_law_43 (by rw [e3]; decide) (by rw [e3]; decide) (by rw [e3]; rfl) (by decide) ?_
      exact law_op3 hops.2.2.2.1 hLaw hX hbl h1 h2 h3 h4 h5 hrel ⟨hPC, hPM, hS⟩ hl back
    by_cases e4 : y = 4
    · refine lv_tableIn (off := 341) (tgt := 384) hx hb dL_law_43 (by rw [e4]; decide) (by rw [e4]; decide) (by rw [e4]; rfl) (by decide) ?_
      exact law_op4 hops.2.2.2.2.1 hLaw hX hbl h1 h2 h3 h4 h5 hrel ⟨hPC, hPM, hS⟩ hl back
    by_cases e5 : y = 5
    · refine lv_tableIn (off := 364) (tgt := 407) hx hb dL_law_43 (by rw [e5]; decide) (by rw [e5]; decide) (by rw [e5]; rfl) (by decide) ?_
      exact law_op5 hops.2.2.2.2.2.1 hLaw hX hbl h1 h2 h3 h4 h5 hrel ⟨hPC, hPM, hS⟩ hl back
    by_cases e6 : y = 6
    · refine lv_tableIn (off := 377) (tgt := 420) hx hb dL_law_43 (by rw [e6]; decide) (by rw [e6]; decide) (by rw [e6]; rfl) (by decide) ?_
      exact law_op6 hops.2.2.2.2.2.2.1 hLaw hX hbl h1 h2 h3 h4 h5 hrel ⟨hPC, hPM, hS⟩ hl back
    by_cases e7 : y = 7
    · refine lv_tableIn (off := 390) (tgt := 433) hx hb dL_law_43 (by rw [e7]; decide) (by rw [e7]; decide) (by rw [e7]; rfl) (by decide) ?_
      exact law_op7 hops.2.2.2.2.2.2.2.1 hLaw hX hbl h1 h2 h3 h4 h5 hrel ⟨hPC, hPM, hS⟩ hl back
    by_cases e8 : y = 8
    · refine lv_tableIn (off := 413) (tgt := 456) hx hb dL_law_43 (by rw [e8]; decide) (by rw [e8]; decide) (by rw [e8]; rfl) (by decide) ?_
      exact law_op8 hops.2.2.2.2.2.2.2.2.1 hLaw hX hbl h1 h2 h3 h4 h5 hrel ⟨hPC, hPM, hS⟩ hl back
    by_cases e9 : y = 9
    · refine lv_tableIn (off := 476) (tgt := 519) hx hb dL_law_43 (by rw [e9]; decide) (by rw [e9]; decide) (by rw [e9]; rfl) (by decide) ?_
      exact law_op9 hops.2.2.2.2.2.2.2.2.2.1 hLaw hX hbl h1 h2 h3 h4 h5 hrel ⟨hPC, hPM, hS⟩ hl back
    by_cases e10 : y = 10
    · refine lv_tableIn (off := 499) (tgt := 542) hx hb dL_law_43 (by rw [e10]; decide) (by rw [e10]; decide) (by rw [e10]; rfl) (by decide) ?_
      exact law_op10 hops.2.2.2.2.2.2.2.2.2.2.1 hLaw hX hbl h1 h2 h3 h4 h5 hrel ⟨hPC, hPM, hS⟩ hl back
    by_cases e11 : y = 11
    · refine lv_tableIn (off := 512) (tgt := 555) hx hb dL_law_43 (by rw [e11]; decide) (by rw [e11]; decide) (by rw [e11]; rfl) (by decide) ?_
      exact law_op11 hops.2.2.2.2.2.2.2.2.2.2.2.1 hLaw hX hbl h1 h2 h3 h4 h5 hrel ⟨hPC, hPM, hS⟩ hl back
    by_cases e12 : y = 12
    · refine lv_tableIn (off := 525) (tgt := 568) hx hb dL_law_43 (by rw [e12]; decide) (by rw [e12]; decide) (by rw [e12]; rfl) (by decide) ?_
      exact law_op12 hops.2.2.2.2.2.2.2.2.2.2.2.2.1 hLaw hX hbl h1 h2 h3 h4 h5 hrel ⟨hPC, hPM, hS⟩ hl back
    by_cases e13 : y = 13
    · refine lv_tableIn (off := 548) (tgt := 591) hx hb dL_law_43 (by rw [e13]; decide) (by rw [e13]; decide) (by rw [e13]; rfl) (by decide) ?_
      exact law_op13 hops.2.2.2.2.2.2.2.2.2.2.2.2.2.1 hLaw hX hbl h1 h2 h3 h4 h5 hrel ⟨hPC, hPM, hS⟩ hl back
    by_cases e14 : y = 14
    · refine lv_tableIn (off := 611) (tgt := 654) hx hb dL_law_43 (by rw [e14]; decide) (by rw [e14]; decide) (by rw [e14]; rfl) (by decide) ?_
      exact law_op14 hops.2.2.2.2.2.2.2.2.2.2.2.2.2.2.1 hLaw hX hbl h1 h2 h3 h4 h5 hrel ⟨hPC, hPM, hS⟩ hl back
    by_cases e15 : y = 15
    · refine lv_tableIn (off := 634) (tgt := 677) hx hb dL_law_43 (by rw [e15]; decide) (by rw [e15]; decide) (by rw [e15]; rfl) (by decide) ?_
      exact law_op15 hops.2.2.2.2.2.2.2.2.2.2.2.2.2.2.2.1 hLaw hX hbl h1 h2 h3 h4 h5 hrel ⟨hPC, hPM, hS⟩ hl back
    by_cases e16 : y = 16
    · refine lv_tableIn (off := 657) (tgt := 700) hx hb dL_law_43 (by rw [e16]; decide) (by rw [e16]; decide) (by rw [e16]; rfl) (by decide) ?_
      exact law_op16 hops.2.2.2.2.2.2.2.2.2.2.2.2.2.2.2.2.1 hLaw hX hbl h1 h2 h3 h4 h5 hrel ⟨hPC, hPM, hS⟩ hl back
    by_cases e17 : y = 17
    · refine lv_tableIn (off := 700) (tgt := 743) hx hb dL_law_43 (by rw [e17]; decide) (by rw [e17]; decide) (by rw [e17]; rfl) (by decide) ?_
      exact law_op17 hops.2.2.2.2.2.2.2.2.2.2.2.2.2.2.2.2.2.1 hLaw hX hbl h1 h2 h3 h4 h5 hrel ⟨hPC, hPM, hS⟩ hl back
    by_cases e18 : y = 18
    · refine lv_tableIn (off := 753) (tgt := 796) hx hb dL_law_43 (by rw [e18]; decide) (by rw [e18]; decide) (by rw [e18]; rfl) (by decide) ?_
      exact law_op18 hops.2.2.2.2.2.2.2.2.2.2.2.2.2.2.2.2.2.2.1 hLaw hX hbl h1 h2 h3 h4 h5 hrel ⟨hPC, hPM, hS⟩ hl back
    by_cases e19 : y = 19
    · refine lv_tableIn (off := 786) (tgt := 829) hx hb dL_law_43 (by rw [e19]; decide) (by rw [e19]; decide) (by rw [e19]; rfl) (by decide) ?_
      exact law_op19 hops.2.2.2.2.2.2.2.2.2.2.2.2.2.2.2.2.2.2.2.1 hLaw hX hbl h1 h2 h3 h4 h5 hrel ⟨hPC, hPM, hS⟩ hl back
    by_cases e20 : y = 20
    · refine lv_tableIn (off := 819) (tgt := 862) hx hb dL_law_43 (by rw [e20]; decide) (by rw [e20]; decide) (by rw [e20]; rfl) (by decide) ?_
      exact law_op20 hops.2.2.2.2.2.2.2.2.2.2.2.2.2.2.2.2.2.2.2.2.1 hLaw hX hbl h1 h2 h3 h4 h5 hrel ⟨hPC, hPM, hS⟩ hl back
    by_cases e21 : y = 21
    · refine lv_tableIn (off := 862) (tgt := 905) hx hb dL_law_43 (by rw [e21]; decide) (by rw [e21]; decide) (by rw [e21]; rfl) (by decide) ?_
      exact law_op21 hops.2.2.2.2.2.2.2.2.2.2.2.2.2.2.2.2.2.2.2.2.2.1 hLaw hX hbl h1 h2 h3 h4 h5 hrel ⟨hPC, hPM, hS⟩ hl back
    by_cases e22 : y = 22
    · refine lv_tableIn (off := 895) (tgt := 938) hx hb dL_law_43 (by rw [e22]; decide) (by rw [e22]; decide) (by rw [e22]; rfl) (by decide) ?_
      exact law_op22 hops.2.2.2.2.2.2.2.2.2.2.2.2.2.2.2.2.2.2.2.2.2.2.1 hLaw hX hbl h1 h2 h3 h4 h5 hrel ⟨hPC, hPM, hS⟩ hl back
    by_cases e23 : y = 23
    · refine lv_tableIn (off := 928) (tgt := 971) hx hb dL_law_43 (by rw [e23]; decide) (by rw [e23]; decide) (by rw [e23]; rfl) (by decide) ?_
      exact law_op23 hops.2.2.2.2.2.2.2.2.2.2.2.2.2.2.2.2.2.2.2.2.2.2.2.1 hLaw hX hbl h1 h2 h3 h4 h5 hrel ⟨hPC, hPM, hS⟩ hl back
    by_cases e24 : y = 24
    · refine lv_tableIn (off := 961) (tgt := 1004) hx hb dL_law_43 (by rw [e24]; decide) (by rw [e24]; decide) (by rw [e24]; rfl) (by decide) ?_
      exact law_op24 hops.2.2.2.2.2.2.2.2.2.2.2.2.2.2.2.2.2.2.2.2.2.2.2.2.1 hLaw hX hbl h1 h2 h3 h4 h5 hrel ⟨hPC, hPM, hS⟩ hl back
    by_cases e25 : y = 25
    · refine lv_tableIn (off := 984) (tgt := 1027) hx hb dL_law_43 (by rw [e25]; decide) (by rw [e25]; decide) (by rw [e25]; rfl) (by decide) ?_
      exact law_op25 hops.2.2.2.2.2.2.2.2.2.2.2.2.2.2.2.2.2.2.2.2.2.2.2.2.2.1 hLaw hX hbl h1 h2 h3 h4 h5 hrel ⟨hPC, hPM, hS⟩ hl back
    by_cases e26 : y = 26
    · refine lv_tableIn (off := 1017) (tgt := 1060) hx hb dL_law_43 (by rw [e26]; decide) (by rw [e26]; decide) (by rw [e26]; rfl) (by decide) ?_
      exact law_op26 hops.2.2.2.2.2.2.2.2.2.2.2.2.2.2.2.2.2.2.2.2.2.2.2.2.2.2.1 hLaw hX hbl h1 h2 h3 h4 h5 hrel ⟨hPC, hPM, hS⟩ hl back
    by_cases e27 : y = 27
    · refine lv_tableIn (off := 1050) (tgt := 1093) hx hb dL_law_43 (by rw [e27]; decide) (by rw [e27]; decide) (by rw [e27]; rfl) (by decide) ?_
      exact law_op27 hops.2.2.2.2.2.2.2.2.2.2.2.2.2.2.2.2.2.2.2.2.2.2.2.2.2.2.2.1 hLaw hX hbl h1 h2 h3 h4 h5 hrel ⟨hPC, hPM, hS⟩ hl back
    by_cases e28 : y = 28
    · refine lv_tableIn (off := 1083) (tgt := 1126) hx hb dL_law_43 (by rw [e28]; decide) (by rw [e28]; decide) (by rw [e28]; rfl) (by decide) ?_
      exact law_op28 hops.2.2.2.2.2.2.2.2.2.2.2.2.2.2.2.2.2.2.2.2.2.2.2.2.2.2.2.2.1 hLaw hX hbl h1 h2 h3 h4 h5 hrel ⟨hPC, hPM, hS⟩ hl back
    by_cases e29 : y = 29
    · refine lv_tableIn (off := 1116) (tgt := 1159) hx hb dL_law_43 (by rw [e29]; decide) (by rw [e29]; decide) (by rw [e29]; rfl) (by decide) ?_
      exact law_op29 hops.2.2.2.2.2.2.2.2.2.2.2.2.2.2.2.2.2.2.2.2.2.2.2.2.2.2.2.2.2.1 hLaw hX hbl h1 h2 h3 h4 h5 hrel ⟨hPC, hPM, hS⟩ hl back
    by_cases e30 : y = 30
    · refine lv_tableIn (off := 1139) (tgt := 1182) hx hb dL_law_43 (by rw [e30]; decide) (by rw [e30]; decide) (by rw [e30]; rfl) (by decide) ?_
      exact law_op30 hops.2.2.2.2.2.2.2.2.2.2.2.2.2.2.2.2.2.2.2.2.2.2.2.2.2.2.2.2.2.2.1 hLaw hX hbl h1 h2 h3 h4 h5 hrel ⟨hPC, hPM, hS⟩ hl back
    by_cases e31 : y = 31
    · refine lv_tableIn (off := 1222) (tgt := 1265) hx hb dL_law_43 (by rw [e31]; decide) (by rw [e31]; decide) (by rw [e31]; rfl) (by decide) ?_
      exact law_op31 hops.2.2.2.2.2.2.2.2.2.2.2.2.2.2.2.2.2.2.2.2.2.2.2.2.2.2.2.2.2.2.2.1 hLaw hX hbl h1 h2 h3 h4 h5 hrel ⟨hPC, hPM, hS⟩ hl back
    by_cases e32 : y = 32
    · refine lv_tableIn (off := 1295) (tgt := 1338) hx hb dL_law_43 (by rw [e32]; decide) (by rw [e32]; decide) (by rw [e32]; rfl) (by decide) ?_
      exact law_op32 hops.2.2.2.2.2.2.2.2.2.2.2.2.2.2.2.2.2.2.2.2.2.2.2.2.2.2.2.2.2.2.2.2.1 hLaw hX hbl h1 h2 h3 h4 h5 hrel ⟨hPC, hPM, hS⟩ hl back
    by_cases e33 : y = 33
    · refine lv_tableIn (off := 1308) (tgt := 1351) hx hb dL_law_43 (by rw [e33]; decide) (by rw [e33]; decide) (by rw [e33]; rfl) (by decide) ?_
      exact law_op33 hops.2.2.2.2.2.2.2.2.2.2.2.2.2.2.2.2.2.2.2.2.2.2.2.2.2.2.2.2.2.2.2.2.2.1 hLaw hX hbl h1 h2 h3 h4 h5 hrel ⟨hPC, hPM, hS⟩ hl back
    by_cases e34 : y = 34
    · refine lv_tableIn (off := 1341) (tgt := 1384) hx hb dL_law_43 (by rw [e34]; decide) (by rw [e34]; decide) (by rw [e34]; rfl) (by decide) ?_
      exact law_op34 hops.2.2.2.2.2.2.2.2.2.2.2.2.2.2.2.2.2.2.2.2.2.2.2.2.2.2.2.2.2.2.2.2.2.2.1 hLaw hX hbl h1 h2 h3 h4 h5 hrel ⟨hPC, hPM, hS⟩ hl back
    by_cases e35 : y = 35
    · refine lv_tableIn (off := 1364) (tgt := 1407) hx hb dL_law_43 (by rw [e35]; decide) (by rw [e35]; decide) (by rw [e35]; rfl) (by decide) ?_
      exact law_op35 hops.2.2.2.2.2.2.2.2.2.2.2.2.2.2.2.2.2.2.2.2.2.2.2.2.2.2.2.2.2.2.2.2.2.2.2.1 hLaw hX hbl h1 h2 h3 h4 h5 hrel ⟨hPC, hPM, hS⟩ hl back
    by_cases e36 : y = 36
    · refine lv_tableIn (off := 1407) (tgt := 1450) hx hb dL_law_43 (by rw [e36]; decide) (by rw [e36]; decide) (by rw [e36]; rfl) (by decide) ?_
      exact law_op36 hops.2.2.2.2.2.2.2.2.2.2.2.2.2.2.2.2.2.2.2.2.2.2.2.2.2.2.2.2.2.2.2.2.2.2.2.2.1 hLaw hX hbl h1 h2 h3 h4 h5 hrel ⟨hPC, hPM, hS⟩ hl back
    by_cases e37 : y = 37
    · refine lv_tableIn (off := 1440) (tgt := 1483) hx hb dL_law_43 (by rw [e37]; decide) (by rw [e37]; decide) (by rw [e37]; rfl) (by decide) ?_
      exact law_op37 hops.2.2.2.2.2.2.2.2.2.2.2.2.2.2.2.2.2.2.2.2.2.2.2.2.2.2.2.2.2.2.2.2.2.2.2.2.2.1 hLaw hX hbl h1 h2 h3 h4 h5 hrel ⟨hPC, hPM, hS⟩ hl back
    by_cases e38 : y = 38
    · refine lv_tableIn (off := 1463) (tgt := 1506) hx hb dL_law_43 (by rw [e38]; decide) (by rw [e38]; decide) (by rw [e38]; rfl) (by decide) ?_
      exact law_op38 hops.2.2.2.2.2.2.2.2.2.2.2.2.2.2.2.2.2.2.2.2.2.2.2.2.2.2.2.2.2.2.2.2.2.2.2.2.2.2.1 hLaw hX hbl h1 h2 h3 h4 h5 hrel ⟨hPC, hPM, hS⟩ hl back
    by_cases e39 : y = 39
    · refine lv_tableIn (off := 1486) (tgt := 1529) hx hb dL_law_43 (by rw [e39]; decide) (by rw [e39]; decide) (by rw [e39]; rfl) (by decide) ?_
      exact law_op39 hops.2.2.2.2.2.2.2.2.2.2.2.2.2.2.2.2.2.2.2.2.2.2.2.2.2.2.2.2.2.2.2.2.2.2.2.2.2.2.2.1 hLaw hX hbl h1 h2 h3 h4 h5 hrel ⟨hPC, hPM, hS⟩ hl back
    by_cases e40 : y = 40
    · refine lv_tableIn (off := 1519) (tgt := 1562) hx hb dL_law_43 (by rw [e40]; decide) (by rw [e40]; decide) (by rw [e40]; rfl) (by decide) ?_
      exact law_op40 hops.2.2.2.2.2.2.2.2.2.2.2.2.2.2.2.2.2.2.2.2.2.2.2.2.2.2.2.2.2.2.2.2.2.2.2.2.2.2.2.2.1 hLaw hX hbl h1 h2 h3 h4 h5 hrel ⟨hPC, hPM, hS⟩ hl back
    by_cases e41 : y = 41
    · refine lv_tableIn (off := 1532) (tgt := 1575) hx hb dL_law_43 (by rw [e41]; decide) (by rw [e41]; decide) (by rw [e41]; rfl) (by decide) ?_
      exact law_op41 hops.2.2.2.2.2.2.2.2.2.2.2.2.2.2.2.2.2.2.2.2.2.2.2.2.2.2.2.2.2.2.2.2.2.2.2.2.2.2.2.2.2.1 hLaw hX hbl h1 h2 h3 h4 h5 hrel ⟨hPC, hPM, hS⟩ hl back
    by_cases e42 : y = 42
    · refine lv_tableIn (off := 1575) (tgt := 1618) hx hb dL_law_43 (by rw [e42]; decide) (by rw [e42]; decide) (by rw [e42]; rfl) (by decide) ?_
      exact law_op42 hops.2.2.2.2.2.2.2.2.2.2.2.2.2.2.2.2.2.2.2.2.2.2.2.2.2.2.2.2.2.2.2.2.2.2.2.2.2.2.2.2.2.2.1 hLaw hX hbl h1 h2 h3 h4 h5 hrel ⟨hPC, hPM, hS⟩ hl back
    by_cases e43 : y = 43
    · refine lv_tableIn (off := 1608) (tgt := 1651) hx hb dL_law_43 (by rw [e43]; decide) (by rw [e43]; decide) (by rw [e43]; rfl) (by decide) ?_
      exact law_op43 hops.2.2.2.2.2.2.2.2.2.2.2.2.2.2.2.2.2.2.2.2.2.2.2.2.2.2.2.2.2.2.2.2.2.2.2.2.2.2.2.2.2.2.2.1 hLaw hX hbl h1 h2 h3 h4 h5 hrel ⟨hPC, hPM, hS⟩ hl back
    by_cases e44 : y = 44
    · refine lv_tableIn (off := 1661) (tgt := 1704) hx hb dL_law_43 (by rw [e44]; decide) (by rw [e44]; decide) (by rw [e44]; rfl) (by decide) ?_
      exact law_op44 hops.2.2.2.2.2.2.2.2.2.2.2.2.2.2.2.2.2.2.2.2.2.2.2.2.2.2.2.2.2.2.2.2.2.2.2.2.2.2.2.2.2.2.2.2.1 hLaw hX hbl h1 h2 h3 h4 h5 hrel ⟨hPC, hPM, hS⟩ hl back
    by_cases e45 : y = 45
    · refine lv_tableIn (off := 1684) (tgt := 1727) hx hb dL_law_43 (by rw [e45]; decide) (by rw [e45]; decide) (by rw [e45]; rfl) (by decide) ?_
      exact law_op45 hops.2.2.2.2.2.2.2.2.2.2.2.2.2.2.2.2.2.2.2.2.2.2.2.2.2.2.2.2.2.2.2.2.2.2.2.2.2.2.2.2.2.2.2.2.2.1 hLaw hX hbl h1 h2 h3 h4 h5 hrel ⟨hPC, hPM, hS⟩ hl back
    by_cases e46 : y = 46
    · refine lv_tableIn (off := 1727) (tgt := 1770) hx hb dL_law_43 (by rw [e46]; decide) (by rw [e46]; decide) (by rw [e46]; rfl) (by decide) ?_
      exact law_op46 hops.2.2.2.2.2.2.2.2.2.2.2.2.2.2.2.2.2.2.2.2.2.2.2.2.2.2.2.2.2.2.2.2.2.2.2.2.2.2.2.2.2.2.2.2.2.2.1 hLaw hX hbl h1 h2 h3 h4 h5 hrel ⟨hPC, hPM, hS⟩ hl back
    by_cases e47 : y = 47
    · refine lv_tableIn (off := 1760) (tgt := 1803) hx hb dL_law_43 (by rw [e47]; decide) (by rw [e47]; decide) (by rw [e47]; rfl) (by decide) ?_
      exact law_op47 hops.2.2.2.2.2.2.2.2.2.2.2.2.2.2.2.2.2.2.2.2.2.2.2.2.2.2.2.2.2.2.2.2.2.2.2.2.2.2.2.2.2.2.2.2.2.2.2.1 hLaw hX hbl h1 h2 h3 h4 h5 hrel ⟨hPC, hPM, hS⟩ hl back
    by_cases e48 : y = 48
    · refine lv_tableIn (off := 1813) (tgt := 1856) hx hb dL_law_43 (by rw [e48]; decide) (by rw [e48]; decide) (by rw [e48]; rfl) (by decide) ?_
      exact law_op48 hops.2.2.2.2.2.2.2.2.2.2.2.2.2.2.2.2.2.2.2.2.2.2.2.2.2.2.2.2.2.2.2.2.2.2.2.2.2.2.2.2.2.2.2.2.2.2.2.2.1 hLaw hX hbl h1 h2 h3 h4 h5 hrel ⟨hPC, hPM, hS⟩ hl back
    by_cases e49 : y = 49
    · refine lv_tableIn (off := 1856) (tgt := 1899) hx hb dL_law_43 (by rw [e49]; decide) (by rw [e49]; decide) (by rw [e49]; rfl) (by decide) ?_
      exact law_op49 hops.2.2.2.2.2.2.2.2.2.2.2.2.2.2.2.2.2.2.2.2.2.2.2.2.2.2.2.2.2.2.2.2.2.2.2.2.2.2.2.2.2.2.2.2.2.2.2.2.2.1 hLaw hX hbl h1 h2 h3 h4 h5 hrel ⟨hPC, hPM, hS⟩ hl back
    by_cases e50 : y = 50
    · refine lv_tableIn (off := 1899) (tgt := 1942) hx hb dL_law_43 (by rw [e50]; decide) (by rw [e50]; decide) (by rw [e50]; rfl) (by decide) ?_
      exact law_op50 hops.2.2.2.2.2.2.2.2.2.2.2.2.2.2.2.2.2.2.2.2.2.2.2.2.2.2.2.2.2.2.2.2.2.2.2.2.2.2.2.2.2.2.2.2.2.2.2.2.2.2.1 hLaw hX hbl h1 h2 h3 h4 h5 hrel ⟨hPC, hPM, hS⟩ hl back
    by_cases e51 : y = 51
    · refine lv_tableIn (off := 1932) (tgt := 1975) hx hb dL_law_43 (by rw [e51]; decide) (by rw [e51]; decide) (by rw [e51]; rfl) (by decide) ?_
      exact law_op51 hops.2.2.2.2.2.2.2.2.2.2.2.2.2.2.2.2.2.2.2.2.2.2.2.2.2.2.2.2.2.2.2.2.2.2.2.2.2.2.2.2.2.2.2.2.2.2.2.2.2.2.2.1 hLaw hX hbl h1 h2 h3 h4 h5 hrel ⟨hPC, hPM, hS⟩ hl back
    by_cases e52 : y = 52
    · refine lv_tableIn (off := 1955) (tgt := 1998) hx hb dL_law_43 (by rw [e52]; decide) (by rw [e52]; decide) (by rw [e52]; rfl) (by decide) ?_
      exact law_op52 hops.2.2.2.2.2.2.2.2.2.2.2.2.2.2.2.2.2.2.2.2.2.2.2.2.2.2.2.2.2.2.2.2.2.2.2.2.2.2.2.2.2.2.2.2.2.2.2.2.2.2.2.2.1 hLaw hX hbl h1 h2 h3 h4 h5 hrel ⟨hPC, hPM, hS⟩ hl back
    by_cases e53 : y = 53
    · refine lv_tableIn (off := 1978) (tgt := 2021) hx hb dL_law_43 (by rw [e53]; decide) (by rw [e53]; decide) (by rw [e53]; rfl) (by decide) ?_
      exact law_op53 hops.2.2.2.2.2.2.2.2.2.2.2.2.2.2.2.2.2.2.2.2.2.2.2.2.2.2.2.2.2.2.2.2.2.2.2.2.2.2.2.2.2.2.2.2.2.2.2.2.2.2.2.2.2 hLaw hX hbl h1 h2 h3 h4 h5 hrel ⟨hPC, hPM, hS⟩ hl back
    refine lv_tableOut (tgt := 2044) hx hb dL_law_43 (by have z0 := xne (k := 0) (by decide) e0; have z1 := xne (k := 1) (by decide) e1; have z2 := xne (k := 2) (by decide) e2; have z3 := xne (k := 3) (by decide) e3; have z4 := xne (k := 4) (by decide) e4; have z5 := xne (k := 5) (by decide) e5; have z6 := xne (k := 6) (by decide) e6; have z7 := xne (k := 7) (by decide) e7; have z8 := xne (k := 8) (by decide) e8; have z9 := xne (k := 9) (by decide) e9; have z10 := xne (k := 10) (by decide) e10; have z11 := xne (k := 11) (by decide) e11; have z12 := xne (k := 12) (by decide) e12; have z13 := xne (k := 13) (by decide) e13; have z14 := xne (k := 14) (by decide) e14; have z15 := xne (k := 15) (by decide) e15; have z16 := xne (k := 16) (by decide) e16; have z17 := xne (k := 17) (by decide) e17; have z18 := xne (k := 18) (by decide) e18; have z19 := xne (k := 19) (by decide) e19; have z20 := xne (k := 20) (by decide) e20; have z21 := xne (k := 21) (by decide) e21; have z22 := xne (k := 22) (by decide) e22; have z23 := xne (k := 23) (by decide) e23; have z24 := xne (k := 24) (by decide) e24; have z25 := xne (k := 25) (by decide) e25; have z26 := xne (k := 26) (by decide) e26; have z27 := xne (k := 27) (by decide) e27; have z28 := xne (k := 28) (by decide) e28; have z29 := xne (k := 29) (by decide) e29; have z30 := xne (k := 30) (by decide) e30; have z31 := xne (k := 31) (by decide) e31; have z32 := xne (k := 32) (by decide) e32; have z33 := xne (k := 33) (by decide) e33; have z34 := xne (k := 34) (by decide) e34; have z35 := xne (k := 35) (by decide) e35; have z36 := xne (k := 36) (by decide) e36; have z37 := xne (k := 37) (by decide) e37; have z38 := xne (k := 38) (by decide) e38; have z39 := xne (k := 39) (by decide) e39; have z40 := xne (k := 40) (by decide) e40; have z41 := xne (k := 41) (by decide) e41; have z42 := xne (k := 42) (by decide) e42; have z43 := xne (k := 43) (by decide) e43; have z44 := xne (k := 44) (by decide) e44; have z45 := xne (k := 45) (by decide) e45; have z46 := xne (k := 46) (by decide) e46; have z47 := xne (k := 47) (by decide) e47; have z48 := xne (k := 48) (by decide) e48; have z49 := xne (k := 49) (by decide) e49; have z50 := xne (k := 50) (by decide) e50; have z51 := xne (k := 51) (by decide) e51; have z52 := xne (k := 52) (by decide) e52; have z53 := xne (k := 53) (by decide) e53; omega) (by decide) ?_
    exact back C R H locs hrel ⟨hPC, hPM, hS⟩
