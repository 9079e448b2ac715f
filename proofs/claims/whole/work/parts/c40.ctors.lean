/-- the law's texts and statics, as long as nothing outside A changes -/
def yZ (A : Nat → Prop) (ad : Nat → Nat) (U : State) : Prop := vk_S 2 [1, 5] [[121], [115, 120, 102, 119, 112]] (fun i => ad (1000 + i)) (fun i => ad (1010 + i)) A U U.heap ∧
  vk_R "LeverCurtainModel" 49 "y" (ad 1000) U ∧ vk_R "LeverCurtainModel" 55 "sxfwp" (ad 1001) U ∧
  va_Z "java/lang/String" "COMPACT_STRINGS" "Z" (.int 1) A U U.heap ∧ (∃ v : Value, (v = .null ∨ ∃ a, v = .ref a) ∧ va_Z "jdk/internal/util/Preconditions" "SIOOBE_FORMATTER" "Ljava/util/function/BiFunction;" v A U U.heap) ∧ va_Nw (.methodLinkNest "LeverCurtain" 20 ⟨"LeverCurtain$Tape", "<init>", "()V"⟩ "LeverCurtain") U ∧ va_Nw (.methodLinkNest "LeverCurtain" 27 ⟨"LeverCurtain$Laws", "<init>", "()V"⟩ "LeverCurtain") U ∧ va_Nw (.methodLinkNest "LeverCurtain$Laws" 26 ⟨"LeverCurtain$LawReader", "<init>", "()V"⟩ "LeverCurtain") U ∧ va_Nw (.methodLinkNest "LeverCurtain" 68 ⟨"LeverCurtain$Papers", "<init>", "()V"⟩ "LeverCurtain") U ∧ va_Nw (.methodLinkNest "LeverCurtain" 75 ⟨"LeverCurtain$Seals", "<init>", "()V"⟩ "LeverCurtain") U
theorem yZ.go {A : Nat → Prop} {ad : Nat → Nat} {s U : State} {H : Heap} {locs : List Loc} (h : yZ A ad s) (hS : va_S A s.heap H locs) (hU : U.heap = H) (hW : s.WarmedH U.vm) : yZ A ad U := by
  obtain ⟨h1, h2, h3, h4, ⟨v, hv, h5⟩, n1, n2, n3, n4, n5⟩ := h
  subst hU
  exact ⟨(h1.moved hW.alike).kept hS.2.1, h2.warm hW, h3.warm hW, (h4.moved hW.alike).kept hS.2.1, ⟨v, hv, (h5.moved hW.alike).kept hS.2.1⟩, n1.warmM hW, n2.warmM hW, n3.warmM hW, n4.warmM hW, n5.warmM hW⟩
theorem yZ.narrow {A B : Nat → Prop} {ad : Nat → Nat} {U : State} (h : yZ A ad U) (hAB : ∀ q, B q → A q) : yZ B ad U := by
  obtain ⟨h1, h2, h3, h4, ⟨v, hv, h5⟩, h6⟩ := h
  exact ⟨h1.narrow hAB, h2, h3, h4.narrow hAB, ⟨v, hv, h5.narrow hAB⟩, h6⟩
theorem yZ.x {S : xS} {A : Nat → Prop} {ad : Nat → Nat} {U : State} (h : yZ A ad U) (hAB : ∀ q, xA S ad q → A q) : xZ S ad U := by
  obtain ⟨h1, h2, h3, h4, ⟨v, hv, h5⟩, h6⟩ := h
  exact ⟨h1.narrow hAB, h2, h3, h4.narrow hAB, v, hv, h5.narrow hAB⟩
theorem yZ.calling {A : Nat → Prop} {ad : Nat → Nat} {U : State} {g : JFrame} {mk : MethodId} {a : Array Value} (h : yZ A ad U) : yZ A ad (U.calling g mk a) := h
theorem xA_nil {ad : Nat → Nat} {q : Nat} (h : xA [] ad q) : False := by
  obtain ⟨k, h1, -⟩ := h
  exact absurd h1 (Nat.not_lt_zero k)
section NEWA
variable {p : Program} {l : Launch} {e : Env} {R : Room} {s : State} {m : MethodId} {args : Array Value} {below : List Frame} {meth : Method} {c : Code} {H : Heap} {locs : List Loc} {cells slots : Nat} {Q : State → Prop}
variable {cc : ByteArray} {pc : Nat} {ls : Array Slot} {rest : List Value} {D : va_G} {A : Nat → Prop} {ws : va_W} {H0 : Heap} {cA : Nat → ClassId}
theorem xnewa {t : Nat} {atype : ArrayType} {ty : FieldType} (hty : newarray.typeOf atype = ty) (ht : (xTy cA)[t]? = some (cA t, ty)) (hRA : ∀ c c', va_RA s c ty → va_RA s c' ty → c = c')
    (hexec : p.tables.exec = Jvm.exec) (hb : c.code = cc) (harr : (Cond.arrayClass (newarray.typeOf atype)).before args s = true) (hK : va_K D vwCl (xTy cA) s) (hP : va_P D vwCl ws H) (hD : va_D A ws) (hS : va_S A H0 H locs) (hA : ∀ q, H0.size ≤ q → A q)
    {n : Int32} {N' : Nat} (ha : ∀ c : ClassId, vp_cell c (N', .inl (fun _ => 0)) = arrV c N' (fun _ => defaultValue ty)) (hn : ¬ n < 0) (hN : n.toNatClampNeg = N') (hbytes : N' * componentBytes ty ≤ 536870912) (hcells : cells + 1 ≤ R.cells) (hslots : slots + N' ≤ R.slots) (hdg : decode cc pc = .ok (.newarray atype, 2))
    (kk : ∀ (q : Nat) (H1 : Heap), va_P D vwCl (ws ++ [(q, .inl (cA t, N', .inl (fun _ => 0)))]) H1 → va_D A (ws ++ [(q, .inl (cA t, N', .inl (fun _ => 0)))]) → va_S A H0 H1 locs →
      W p l e R s m args below meth c H1 locs (cells + 1) (slots + N') Q (F0 m (pc + 2) ls (.ref q :: rest))) : W p l e R s m args below meth c H locs cells slots Q (F0 m pc ls (.int n :: rest)) := by
  refine va_newa (tys := xTy cA) (a0 := (N', .inl (fun _ => 0))) hexec hb harr hty hK hP hD hS hA ha hn hN hbytes hcells hslots hdg (fun q c2 H1 hK2 hP2 hD2 hS2 => ?_)
  have e : c2 = cA t := hRA _ _ ((hK2.2 (xTy cA).length (c2, ty) (by simp)).2) ((hK.2 t (cA t, ty) ht).2)
  subst e
  exact kk q H1 hP2 hD2 hS2
end NEWA
section XC0
variable {p : Program} {l : Launch} {e : Env} {R : Room} {s : State} {m : MethodId} {args : Array Value} {below : List Frame} {meth : Method} {c : Code} {H : Heap} {locs : List Loc} {cells slots : Nat} {Q : State → Prop}
theorem xcall0 {D : va_G} {cA : Nat → ClassId} {ad : Nat → Nat} {v : Int32} {M' : xM} {A : Nat → Prop} {ws : va_W} {pc : Nat} {ls : Array Slot} {rest st0 : List Value} {a : Array Value}
    (hr : va_Run p l e R s m args below meth c H locs cells slots 0 0 (F0 m pc ls st0) rest (xQ [] D cA ad (some v) M' a) (xA [] ad)) (hS : va_S A s.heap H locs) (hP : va_P D vwCl ws H)
    (kk : ∀ (H1 : Heap) (locs1 : List Loc), va_P D vwCl ws H1 → va_S A s.heap H1 locs1 → W p l e R s m args below meth c H1 locs1 cells slots Q (F0 m (pc + 3) ls (.int v :: rest))) : W p l e R s m args below meth c H locs cells slots Q (F0 m pc ls st0) := by
  intro T hT X
  obtain ⟨v2, st₀, t, T', L, h0, X', hL, e1, e2, ⟨⟨hv, -, -⟩, hz, hk⟩, st⟩ := hr T hT X
  have hv' : v2 = some (.int v) := by injection hv
  subst hv'
  rw [h0] at hz hk
  have hk2 : ∀ q : Nat, q < H.size → T'.heap[q]? = H[q]? := fun q h => by rw [e1]; exact hk q h xA_nil
  obtain ⟨t2, a1, b1⟩ := kk T'.heap (locs ++ L) (hP.kept fun k q h => hk2 _ (hP k q h).lt)
    ⟨Nat.le_trans hS.1 (by rw [e1]; exact hz), fun q h1 h2 => by rw [hk2 q (Nat.lt_of_lt_of_le h1 hS.1)]; exact hS.2.1 q h1 h2, fun q hq => by
      rcases List.mem_append.mp hq with h | h
      · exact hS.2.2 q h
      · exact absurd (hL q h) xA_nil⟩ T' rfl X'
  exact ⟨t2, st t2 a1, b1⟩
end XC0
theorem xRA_int {s : State} : ∀ c c', va_RA s c .int → va_RA s c' .int → c = c' := fun _ _ h h' => Option.some.inj (h.symm.trans h')
theorem xRA_byte {s : State} : ∀ c c', va_RA s c .byte → va_RA s c' .byte → c = c' := fun _ _ h h' => Option.some.inj (h.symm.trans h')
theorem xRA_bool {s : State} : ∀ c c', va_RA s c .boolean → va_RA s c' .boolean → c = c' := fun _ _ h h' => Option.some.inj (h.symm.trans h')
theorem xgoodT {w : Cond} (h : w ∈ lw_g) : w ∈ lw_g := h
theorem cmem_oi : Cond.instanceMethod objectInit ∈ lw_g := lw_gm 129 (by decide +kernel) rfl
theorem cmem_oc : Cond.code objectInit ⟨#[0xb1]⟩ 1 none ∈ lw_g := lw_gm 130 (by decide +kernel) rfl
theorem cmem_ai : Cond.arrayClass .int ∈ lw_g := lw_gm 200 (by decide +kernel) rfl
theorem cmem_ab : Cond.arrayClass .byte ∈ lw_g := lw_gm 1631 (by decide +kernel) rfl
theorem cmem_az : Cond.arrayClass .boolean ∈ lw_g := lw_gm 1630 (by decide +kernel) rfl
set_option maxHeartbeats 8000000 in
set_option maxRecDepth 100000 in
theorem c_X0_init (l : Launch) (D : va_G) (cA : Nat → ClassId) (sa : Nat → Nat) (a sz : Nat) (x1 : Int32) : Met l yX0_init (xws yX0_init cX0_init 2 none) ({ frames := 12, cells := 6, slots := 1072, locals := 768 }) (va_Pc [.ref a, .int x1] (fun U => U.heap.size = sz ∧ va_P D vwCl [(a, .inr (0, [.int 0, .int 0, .int 0, .null, .null, .null, .null, .int 0, .int 0, .int 0, .int 0, .int 0, .int 0, .null, .null]))] U.heap ∧ va_K D vwCl (xTy cA) U ∧ va_D (fun _ => True) [(a, .inr (0, [.int 0, .int 0, .int 0, .null, .null, .null, .null, .int 0, .int 0, .int 0, .int 0, .int 0, .int 0, .null, .null]))] ∧ yZ (va_A [(a, .inr (0, [.int 0, .int 0, .int 0, .null, .null, .null, .null, .int 0, .int 0, .int 0, .int 0, .int 0, .int 0, .null, .null]))] sz) sa U)) (va_Qv (fun _ : Nat → Nat => True) (fun u t => va_P D vwCl [(a, .inr (0, [.int (P_X1_nearest x1 (2) (16) (fun _ _ => 0)), .int 0, .int 0, .ref (u 0), .ref (u 1), .ref (u 2), .ref (u 3), .int 0, .int (1), .int 0, .int 0, .int 0, .int 0, .ref (u 4), .ref (u 5)])), ((u 0), .inl (cA 0, 6, .inl (fun _ => 0))), ((u 1), .inl (cA 0, 6, .inl (fun _ => 0))), ((u 2), .inl (cA 0, 10, .inl (fun _ => 0))), ((u 3), .inl (cA 0, 10, .inl (fun _ => 0))), ((u 4), .inl (cA 0, 1024, .inl (fun _ => 0))), ((u 5), .inl (cA 0, 16, .inl (fun _ => 0)))] t.heap ∧ va_K D vwCl (xTy cA) t ∧ va_D (va_A [(a, .inr (0, [.int 0, .int 0, .int 0, .null, .null, .null, .null, .int 0, .int 0, .int 0, .int 0, .int 0, .int 0, .null, .null]))] sz) [(a, .inr (0, [.int (P_X1_nearest x1 (2) (16) (fun _ _ => 0)), .int 0, .int 0, .ref (u 0), .ref (u 1), .ref (u 2), .ref (u 3), .int 0, .int (1), .int 0, .int 0, .int 0, .int 0, .ref (u 4), .ref (u 5)])), ((u 0), .inl (cA 0, 6, .inl (fun _ => 0))), ((u 1), .inl (cA 0, 6, .inl (fun _ => 0))), ((u 2), .inl (cA 0, 10, .inl (fun _ => 0))), ((u 3), .inl (cA 0, 10, .inl (fun _ => 0))), ((u 4), .inl (cA 0, 1024, .inl (fun _ => 0))), ((u 5), .inl (cA 0, 16, .inl (fun _ => 0)))]) (va_A [(a, .inr (0, [.int 0, .int 0, .int 0, .null, .null, .null, .null, .int 0, .int 0, .int 0, .int 0, .int 0, .int 0, .null, .null]))] sz)) 6 1072 (va_A [(a, .inr (0, [.int 0, .int 0, .int 0, .null, .null, .null, .null, .int 0, .int 0, .int 0, .int 0, .int 0, .int 0, .null, .null]))] sz) := by
  refine Met.ofW (cc := cX0_init) (maxL := 2) (ret := none) (by decide +kernel) rfl ?_
  intro p e s m args below meth c s₁ B hml hv
  obtain ⟨rfl, hsz, hP, hK, hD0, hZ⟩ := hv
  have hx := B.exec
  have hb := B.bytes
  have hr := B.returns
  have hts0 := atoms_spec (ws := xws yX0_init cX0_init 2 none) B.pre
  have hts : ∀ w ∈ lw_g, w.before _ s = true := fun w hw => hts0 w (List.mem_cons_of_mem _ hw)
  have hown : s.vm.findClass RX0 = some m.cls := findClass_of_methodNamed B.named
  have hlocks := B.notSynchronized
  have hin : meth.name = "<init>" := (name_of_methodNamed B.named B.method).1
  subst hsz
  have hD := hD0.self (sz := s.heap.size)
  generalize hAe : va_A [(a, .inr (0, [.int 0, .int 0, .int 0, .null, .null, .null, .null, .int 0, .int 0, .int 0, .int 0, .int 0, .int 0, .null, .null]))] s.heap.size = A at hD hZ ⊢
  have hA : ∀ q : Nat, s.heap.size ≤ q → A q := fun q h => by rw [← hAe]; exact Or.inr h
  have hS : va_S A s.heap s.heap [] := va_S.rf
  have hl := lv_entry ([.ref a, .int x1]) (n := 2) (Nat.le_of_ble_eq_true rfl)
  rw [lg_entry_eq]
  generalize (lg_sl ([.ref a, .int x1]) ++ List.replicate (2 - (lg_sl ([.ref a, .int x1])).length) Slot.unset).toArray = ls at hl ⊢
  have hl : lv_has ls 2 [(0, .ref a), (1, .int x1)] := hl
  refine lv_aload_n hx hb dX0_init_0 rfl (lv_at hl 0 rfl) ?_
  refine W.objInit hx hb hown (hts (.methodLink RX0 3 objectInit) (lw_gm 136 (by decide +kernel) rfl)) (hts _ cmem_oi) (hts _ cmem_oc) rfl (by rw [hml]; exact hl.1) rfl dX0_init_1 (Nat.le_of_ble_eq_true rfl) (Nat.le_of_ble_eq_true rfl) ?_
  refine W.eq (g2 := F0 m 4 ls []) rfl ?_
  refine lv_aload_n hx hb dX0_init_4 rfl (lv_at hl 0 rfl) ?_
  refine lv_bipush (v := (6 : Int32)) hx hb dX0_init_5 (by decide) ?_
  refine xnewa (t := 0) (atype := .int) (ty := .int) (N' := 6) rfl rfl xRA_int hx hb (hts _ cmem_ai) hK hP hD hS hA (fun _ => rfl) (by decide) (by decide) (by decide) (Nat.le_of_ble_eq_true rfl) (Nat.le_of_ble_eq_true rfl) dX0_init_7 (fun q1 H hP hD hS => ?_)
  have hP : va_P D vwCl [(a, .inr (0, [.int 0, .int 0, .int 0, .null, .null, .null, .null, .int 0, .int 0, .int 0, .int 0, .int 0, .int 0, .null, .null])), (q1, .inl (cA 0, 6, .inl (fun _ => 0)))] H := hP
  have hD : va_D A [(a, .inr (0, [.int 0, .int 0, .int 0, .null, .null, .null, .null, .int 0, .int 0, .int 0, .int 0, .int 0, .int 0, .null, .null])), (q1, .inl (cA 0, 6, .inl (fun _ => 0)))] := hD
  refine W.widen (k := 1) (n := 6) (Nat.le_of_ble_eq_true rfl) (Nat.le_of_ble_eq_true rfl) ?_
  refine va_putF (D := D) (ci := 0) (v := .ref q1) (ty := .array .int) (C := RX0) (T := TX0) (N := 15) hx hb hts xin_X0 tyX0 tyX0_ok nmX0 hown hK hP hD hS 0 rfl rfl 3 (by decide) (hts (.fieldLink RX0 11 "LeverCurtain$Booth" "officeLevers" "[I") (lw_gm 157 (by decide +kernel) rfl)) (fun _ h9 => h9) rfl hin rfl (by decide +kernel) rfl rfl (Nat.le_of_ble_eq_true rfl) dX0_init_9 (fun H locs hP hD hS => ?_)
  have hP : va_P D vwCl [(a, .inr (0, [.int 0, .int 0, .int 0, .ref q1, .null, .null, .null, .int 0, .int 0, .int 0, .int 0, .int 0, .int 0, .null, .null])), (q1, .inl (cA 0, 6, .inl (fun _ => 0)))] H := hP
  have hD : va_D A [(a, .inr (0, [.int 0, .int 0, .int 0, .ref q1, .null, .null, .null, .int 0, .int 0, .int 0, .int 0, .int 0, .int 0, .null, .null])), (q1, .inl (cA 0, 6, .inl (fun _ => 0)))] := hD
  refine lv_aload_n hx hb dX0_init_12 rfl (lv_at hl 0 rfl) ?_
  refine lv_bipush (v := (6 : Int32)) hx hb dX0_init_13 (by decide) ?_
  refine xnewa (t := 0) (atype := .int) (ty := .int) (N' := 6) rfl rfl xRA_int hx hb (hts _ cmem_ai) hK hP hD hS hA (fun _ => rfl) (by decide) (by decide) (by decide) (Nat.le_of_ble_eq_true rfl) (Nat.le_of_ble_eq_true rfl) dX0_init_15 (fun q2 H hP hD hS => ?_)
  have hP : va_P D vwCl [(a, .inr (0, [.int 0, .int 0, .int 0, .ref q1, .null, .null, .null, .int 0, .int 0, .int 0, .int 0, .int 0, .int 0, .null, .null])), (q1, .inl (cA 0, 6, .inl (fun _ => 0))), (q2, .inl (cA 0, 6, .inl (fun _ => 0)))] H := hP
  have hD : va_D A [(a, .inr (0, [.int 0, .int 0, .int 0, .ref q1, .null, .null, .null, .int 0, .int 0, .int 0, .int 0, .int 0, .int 0, .null, .null])), (q1, .inl (cA 0, 6, .inl (fun _ => 0))), (q2, .inl (cA 0, 6, .inl (fun _ => 0)))] := hD
  refine W.widen (k := 2) (n := 12) (Nat.le_of_ble_eq_true rfl) (Nat.le_of_ble_eq_true rfl) ?_
  refine va_putF (D := D) (ci := 0) (v := .ref q2) (ty := .array .int) (C := RX0) (T := TX0) (N := 15) hx hb hts xin_X0 tyX0 tyX0_ok nmX0 hown hK hP hD hS 0 rfl rfl 4 (by decide) (hts (.fieldLink RX0 15 "LeverCurtain$Booth" "officeMost" "[I") (lw_gm 158 (by decide +kernel) rfl)) (fun _ h9 => h9) rfl hin rfl (by decide +kernel) rfl rfl (Nat.le_of_ble_eq_true rfl) dX0_init_17 (fun H locs hP hD hS => ?_)
  have hP : va_P D vwCl [(a, .inr (0, [.int 0, .int 0, .int 0, .ref q1, .ref q2, .null, .null, .int 0, .int 0, .int 0, .int 0, .int 0, .int 0, .null, .null])), (q1, .inl (cA 0, 6, .inl (fun _ => 0))), (q2, .inl (cA 0, 6, .inl (fun _ => 0)))] H := hP
  have hD : va_D A [(a, .inr (0, [.int 0, .int 0, .int 0, .ref q1, .ref q2, .null, .null, .int 0, .int 0, .int 0, .int 0, .int 0, .int 0, .null, .null])), (q1, .inl (cA 0, 6, .inl (fun _ => 0))), (q2, .inl (cA 0, 6, .inl (fun _ => 0)))] := hD
  refine lv_aload_n hx hb dX0_init_20 rfl (lv_at hl 0 rfl) ?_
  refine lv_bipush (v := (10 : Int32)) hx hb dX0_init_21 (by decide) ?_
  refine xnewa (t := 0) (atype := .int) (ty := .int) (N' := 10) rfl rfl xRA_int hx hb (hts _ cmem_ai) hK hP hD hS hA (fun _ => rfl) (by decide) (by decide) (by decide) (Nat.le_of_ble_eq_true rfl) (Nat.le_of_ble_eq_true rfl) dX0_init_23 (fun q3 H hP hD hS => ?_)
  have hP : va_P D vwCl [(a, .inr (0, [.int 0, .int 0, .int 0, .ref q1, .ref q2, .null, .null, .int 0, .int 0, .int 0, .int 0, .int 0, .int 0, .null, .null])), (q1, .inl (cA 0, 6, .inl (fun _ => 0))), (q2, .inl (cA 0, 6, .inl (fun _ => 0))), (q3, .inl (cA 0, 10, .inl (fun _ => 0)))] H := hP
  have hD : va_D A [(a, .inr (0, [.int 0, .int 0, .int 0, .ref q1, .ref q2, .null, .null, .int 0, .int 0, .int 0, .int 0, .int 0, .int 0, .null, .null])), (q1, .inl (cA 0, 6, .inl (fun _ => 0))), (q2, .inl (cA 0, 6, .inl (fun _ => 0))), (q3, .inl (cA 0, 10, .inl (fun _ => 0)))] := hD
  refine W.widen (k := 3) (n := 22) (Nat.le_of_ble_eq_true rfl) (Nat.le_of_ble_eq_true rfl) ?_
  refine va_putF (D := D) (ci := 0) (v := .ref q3) (ty := .array .int) (C := RX0) (T := TX0) (N := 15) hx hb hts xin_X0 tyX0 tyX0_ok nmX0 hown hK hP hD hS 0 rfl rfl 5 (by decide) (hts (.fieldLink RX0 18 "LeverCurtain$Booth" "strapLevers" "[I") (lw_gm 159 (by decide +kernel) rfl)) (fun _ h9 => h9) rfl hin rfl (by decide +kernel) rfl rfl (Nat.le_of_ble_eq_true rfl) dX0_init_25 (fun H locs hP hD hS => ?_)
  have hP : va_P D vwCl [(a, .inr (0, [.int 0, .int 0, .int 0, .ref q1, .ref q2, .ref q3, .null, .int 0, .int 0, .int 0, .int 0, .int 0, .int 0, .null, .null])), (q1, .inl (cA 0, 6, .inl (fun _ => 0))), (q2, .inl (cA 0, 6, .inl (fun _ => 0))), (q3, .inl (cA 0, 10, .inl (fun _ => 0)))] H := hP
  have hD : va_D A [(a, .inr (0, [.int 0, .int 0, .int 0, .ref q1, .ref q2, .ref q3, .null, .int 0, .int 0, .int 0, .int 0, .int 0, .int 0, .null, .null])), (q1, .inl (cA 0, 6, .inl (fun _ => 0))), (q2, .inl (cA 0, 6, .inl (fun _ => 0))), (q3, .inl (cA 0, 10, .inl (fun _ => 0)))] := hD
  refine lv_aload_n hx hb dX0_init_28 rfl (lv_at hl 0 rfl) ?_
  refine lv_bipush (v := (10 : Int32)) hx hb dX0_init_29 (by decide) ?_
  refine xnewa (t := 0) (atype := .int) (ty := .int) (N' := 10) rfl rfl xRA_int hx hb (hts _ cmem_ai) hK hP hD hS hA (fun _ => rfl) (by decide) (by decide) (by decide) (Nat.le_of_ble_eq_true rfl) (Nat.le_of_ble_eq_true rfl) dX0_init_31 (fun q4 H hP hD hS => ?_)
  have hP : va_P D vwCl [(a, .inr (0, [.int 0, .int 0, .int 0, .ref q1, .ref q2, .ref q3, .null, .int 0, .int 0, .int 0, .int 0, .int 0, .int 0, .null, .null])), (q1, .inl (cA 0, 6, .inl (fun _ => 0))), (q2, .inl (cA 0, 6, .inl (fun _ => 0))), (q3, .inl (cA 0, 10, .inl (fun _ => 0))), (q4, .inl (cA 0, 10, .inl (fun _ => 0)))] H := hP
  have hD : va_D A [(a, .inr (0, [.int 0, .int 0, .int 0, .ref q1, .ref q2, .ref q3, .null, .int 0, .int 0, .int 0, .int 0, .int 0, .int 0, .null, .null])), (q1, .inl (cA 0, 6, .inl (fun _ => 0))), (q2, .inl (cA 0, 6, .inl (fun _ => 0))), (q3, .inl (cA 0, 10, .inl (fun _ => 0))), (q4, .inl (cA 0, 10, .inl (fun _ => 0)))] := hD
  refine W.widen (k := 4) (n := 32) (Nat.le_of_ble_eq_true rfl) (Nat.le_of_ble_eq_true rfl) ?_
  refine va_putF (D := D) (ci := 0) (v := .ref q4) (ty := .array .int) (C := RX0) (T := TX0) (N := 15) hx hb hts xin_X0 tyX0 tyX0_ok nmX0 hown hK hP hD hS 0 rfl rfl 6 (by decide) (hts (.fieldLink RX0 21 "LeverCurtain$Booth" "strapMost" "[I") (lw_gm 160 (by decide +kernel) rfl)) (fun _ h9 => h9) rfl hin rfl (by decide +kernel) rfl rfl (Nat.le_of_ble_eq_true rfl) dX0_init_33 (fun H locs hP hD hS => ?_)
  have hP : va_P D vwCl [(a, .inr (0, [.int 0, .int 0, .int 0, .ref q1, .ref q2, .ref q3, .ref q4, .int 0, .int 0, .int 0, .int 0, .int 0, .int 0, .null, .null])), (q1, .inl (cA 0, 6, .inl (fun _ => 0))), (q2, .inl (cA 0, 6, .inl (fun _ => 0))), (q3, .inl (cA 0, 10, .inl (fun _ => 0))), (q4, .inl (cA 0, 10, .inl (fun _ => 0)))] H := hP
  have hD : va_D A [(a, .inr (0, [.int 0, .int 0, .int 0, .ref q1, .ref q2, .ref q3, .ref q4, .int 0, .int 0, .int 0, .int 0, .int 0, .int 0, .null, .null])), (q1, .inl (cA 0, 6, .inl (fun _ => 0))), (q2, .inl (cA 0, 6, .inl (fun _ => 0))), (q3, .inl (cA 0, 10, .inl (fun _ => 0))), (q4, .inl (cA 0, 10, .inl (fun _ => 0)))] := hD
  refine lv_aload_n hx hb dX0_init_36 rfl (lv_at hl 0 rfl) ?_
  refine lv_iconst (v := (1 : Int32)) hx hb dX0_init_37 (by decide) ?_
  refine va_put (D := D) (ci := 0) (v := .int (1)) (ty := .boolean) (C := RX0) (T := TX0) (N := 15) hx hb hts xin_X0 tyX0 tyX0_ok nmX0 hown hK hP hD hS 0 rfl rfl 8 (by decide) (hts (.fieldLink RX0 24 "LeverCurtain$Booth" "stale" "Z") (lw_gm 162 (by decide +kernel) rfl)) (fun _ h9 => h9) rfl (by decide +kernel) rfl rfl (Nat.le_of_ble_eq_true rfl) dX0_init_38 (fun H locs hP hD hS => ?_)
  have hP : va_P D vwCl [(a, .inr (0, [.int 0, .int 0, .int 0, .ref q1, .ref q2, .ref q3, .ref q4, .int 0, .int (1), .int 0, .int 0, .int 0, .int 0, .null, .null])), (q1, .inl (cA 0, 6, .inl (fun _ => 0))), (q2, .inl (cA 0, 6, .inl (fun _ => 0))), (q3, .inl (cA 0, 10, .inl (fun _ => 0))), (q4, .inl (cA 0, 10, .inl (fun _ => 0)))] H := hP
  have hD : va_D A [(a, .inr (0, [.int 0, .int 0, .int 0, .ref q1, .ref q2, .ref q3, .ref q4, .int 0, .int (1), .int 0, .int 0, .int 0, .int 0, .null, .null])), (q1, .inl (cA 0, 6, .inl (fun _ => 0))), (q2, .inl (cA 0, 6, .inl (fun _ => 0))), (q3, .inl (cA 0, 10, .inl (fun _ => 0))), (q4, .inl (cA 0, 10, .inl (fun _ => 0)))] := hD
  refine lv_aload_n hx hb dX0_init_41 rfl (lv_at hl 0 rfl) ?_
  refine lv_sipush (v := (1024 : Int32)) hx hb dX0_init_42 (by decide) ?_
  refine xnewa (t := 0) (atype := .int) (ty := .int) (N' := 1024) rfl rfl xRA_int hx hb (hts _ cmem_ai) hK hP hD hS hA (fun _ => rfl) (by decide) (by decide) (by decide) (Nat.le_of_ble_eq_true rfl) (Nat.le_of_ble_eq_true rfl) dX0_init_45 (fun q5 H hP hD hS => ?_)
  have hP : va_P D vwCl [(a, .inr (0, [.int 0, .int 0, .int 0, .ref q1, .ref q2, .ref q3, .ref q4, .int 0, .int (1), .int 0, .int 0, .int 0, .int 0, .null, .null])), (q1, .inl (cA 0, 6, .inl (fun _ => 0))), (q2, .inl (cA 0, 6, .inl (fun _ => 0))), (q3, .inl (cA 0, 10, .inl (fun _ => 0))), (q4, .inl (cA 0, 10, .inl (fun _ => 0))), (q5, .inl (cA 0, 1024, .inl (fun _ => 0)))] H := hP
  have hD : va_D A [(a, .inr (0, [.int 0, .int 0, .int 0, .ref q1, .ref q2, .ref q3, .ref q4, .int 0, .int (1), .int 0, .int 0, .int 0, .int 0, .null, .null])), (q1, .inl (cA 0, 6, .inl (fun _ => 0))), (q2, .inl (cA 0, 6, .inl (fun _ => 0))), (q3, .inl (cA 0, 10, .inl (fun _ => 0))), (q4, .inl (cA 0, 10, .inl (fun _ => 0))), (q5, .inl (cA 0, 1024, .inl (fun _ => 0)))] := hD
  refine W.widen (k := 5) (n := 1056) (Nat.le_of_ble_eq_true rfl) (Nat.le_of_ble_eq_true rfl) ?_
  refine va_putF (D := D) (ci := 0) (v := .ref q5) (ty := .array .int) (C := RX0) (T := TX0) (N := 15) hx hb hts xin_X0 tyX0 tyX0_ok nmX0 hown hK hP hD hS 0 rfl rfl 13 (by decide) (hts (.fieldLink RX0 28 "LeverCurtain$Booth" "againstSome" "[I") (lw_gm 167 (by decide +kernel) rfl)) (fun _ h9 => h9) rfl hin rfl (by decide +kernel) rfl rfl (Nat.le_of_ble_eq_true rfl) dX0_init_47 (fun H locs hP hD hS => ?_)
  have hP : va_P D vwCl [(a, .inr (0, [.int 0, .int 0, .int 0, .ref q1, .ref q2, .ref q3, .ref q4, .int 0, .int (1), .int 0, .int 0, .int 0, .int 0, .ref q5, .null])), (q1, .inl (cA 0, 6, .inl (fun _ => 0))), (q2, .inl (cA 0, 6, .inl (fun _ => 0))), (q3, .inl (cA 0, 10, .inl (fun _ => 0))), (q4, .inl (cA 0, 10, .inl (fun _ => 0))), (q5, .inl (cA 0, 1024, .inl (fun _ => 0)))] H := hP
  have hD : va_D A [(a, .inr (0, [.int 0, .int 0, .int 0, .ref q1, .ref q2, .ref q3, .ref q4, .int 0, .int (1), .int 0, .int 0, .int 0, .int 0, .ref q5, .null])), (q1, .inl (cA 0, 6, .inl (fun _ => 0))), (q2, .inl (cA 0, 6, .inl (fun _ => 0))), (q3, .inl (cA 0, 10, .inl (fun _ => 0))), (q4, .inl (cA 0, 10, .inl (fun _ => 0))), (q5, .inl (cA 0, 1024, .inl (fun _ => 0)))] := hD
  refine lv_aload_n hx hb dX0_init_50 rfl (lv_at hl 0 rfl) ?_
  refine lv_bipush (v := (16 : Int32)) hx hb dX0_init_51 (by decide) ?_
  refine xnewa (t := 0) (atype := .int) (ty := .int) (N' := 16) rfl rfl xRA_int hx hb (hts _ cmem_ai) hK hP hD hS hA (fun _ => rfl) (by decide) (by decide) (by decide) (Nat.le_of_ble_eq_true rfl) (Nat.le_of_ble_eq_true rfl) dX0_init_53 (fun q6 H hP hD hS => ?_)
  have hP : va_P D vwCl [(a, .inr (0, [.int 0, .int 0, .int 0, .ref q1, .ref q2, .ref q3, .ref q4, .int 0, .int (1), .int 0, .int 0, .int 0, .int 0, .ref q5, .null])), (q1, .inl (cA 0, 6, .inl (fun _ => 0))), (q2, .inl (cA 0, 6, .inl (fun _ => 0))), (q3, .inl (cA 0, 10, .inl (fun _ => 0))), (q4, .inl (cA 0, 10, .inl (fun _ => 0))), (q5, .inl (cA 0, 1024, .inl (fun _ => 0))), (q6, .inl (cA 0, 16, .inl (fun _ => 0)))] H := hP
  have hD : va_D A [(a, .inr (0, [.int 0, .int 0, .int 0, .ref q1, .ref q2, .ref q3, .ref q4, .int 0, .int (1), .int 0, .int 0, .int 0, .int 0, .ref q5, .null])), (q1, .inl (cA 0, 6, .inl (fun _ => 0))), (q2, .inl (cA 0, 6, .inl (fun _ => 0))), (q3, .inl (cA 0, 10, .inl (fun _ => 0))), (q4, .inl (cA 0, 10, .inl (fun _ => 0))), (q5, .inl (cA 0, 1024, .inl (fun _ => 0))), (q6, .inl (cA 0, 16, .inl (fun _ => 0)))] := hD
  refine W.widen (k := 6) (n := 1072) (Nat.le_of_ble_eq_true rfl) (Nat.le_of_ble_eq_true rfl) ?_
  refine va_putF (D := D) (ci := 0) (v := .ref q6) (ty := .array .int) (C := RX0) (T := TX0) (N := 15) hx hb hts xin_X0 tyX0 tyX0_ok nmX0 hown hK hP hD hS 0 rfl rfl 14 (by decide) (hts (.fieldLink RX0 31 "LeverCurtain$Booth" "order" "[I") (lw_gm 168 (by decide +kernel) rfl)) (fun _ h9 => h9) rfl hin rfl (by decide +kernel) rfl rfl (Nat.le_of_ble_eq_true rfl) dX0_init_55 (fun H locs hP hD hS => ?_)
  have hP : va_P D vwCl [(a, .inr (0, [.int 0, .int 0, .int 0, .ref q1, .ref q2, .ref q3, .ref q4, .int 0, .int (1), .int 0, .int 0, .int 0, .int 0, .ref q5, .ref q6])), (q1, .inl (cA 0, 6, .inl (fun _ => 0))), (q2, .inl (cA 0, 6, .inl (fun _ => 0))), (q3, .inl (cA 0, 10, .inl (fun _ => 0))), (q4, .inl (cA 0, 10, .inl (fun _ => 0))), (q5, .inl (cA 0, 1024, .inl (fun _ => 0))), (q6, .inl (cA 0, 16, .inl (fun _ => 0)))] H := hP
  have hD : va_D A [(a, .inr (0, [.int 0, .int 0, .int 0, .ref q1, .ref q2, .ref q3, .ref q4, .int 0, .int (1), .int 0, .int 0, .int 0, .int 0, .ref q5, .ref q6])), (q1, .inl (cA 0, 6, .inl (fun _ => 0))), (q2, .inl (cA 0, 6, .inl (fun _ => 0))), (q3, .inl (cA 0, 10, .inl (fun _ => 0))), (q4, .inl (cA 0, 10, .inl (fun _ => 0))), (q5, .inl (cA 0, 1024, .inl (fun _ => 0))), (q6, .inl (cA 0, 16, .inl (fun _ => 0)))] := hD
  refine lv_aload_n hx hb dX0_init_58 rfl (lv_at hl 0 rfl) ?_
  refine lv_iload_n hx hb dX0_init_59 rfl (lv_at hl 1 rfl) ?_
  refine lv_iconst (v := (2 : Int32)) hx hb dX0_init_60 (by decide) ?_
  refine lv_bipush (v := (16 : Int32)) hx hb dX0_init_61 (by decide) ?_
  refine xcall0 (v := (P_X1_nearest x1 (2) (16) (fun _ _ => 0))) (M' := fun _ _ => 0) (va_runS (As := [.int x1, .int (2), .int (16)]) (rest := [.ref a]) ⟨hx, hb, hml, hown, hts⟩ ((a_X1_nearest (S := []) (l := l) x1 (2) (16) (fun _ _ => 0)) _ rfl D cA sa (fun i j h => absurd h (Nat.not_lt_zero i))) ⟨callB_of 3 hts (xlw_ws (lw_gm 139 (by decide +kernel) rfl)) rfl rfl rfl (hts (.initialized RX1) (lw_gm 106 (by decide +kernel) rfl)) (hts (.methodLink RX0 34 yX1_nearest) (lw_gm 137 (by decide +kernel) rfl)) ⟨by decide, by decide, by decide +kernel⟩ ⟨Nat.le_of_ble_eq_true rfl, Nat.le_of_ble_eq_true rfl⟩, hts (.static yX1_nearest) (lw_gm 138 (by decide +kernel) rfl)⟩ ⟨xPc_blind, fun U hU hW => ⟨rfl, fun k q h => by simp [xW] at h, va_K.moved hW.alike hK, (hZ.go hS hU hW).x (fun q h => absurd h xA_nil)⟩⟩ rfl rfl hl.1 rfl (lv_room (Nat.le_of_ble_eq_true rfl)) dX0_init_63 ⟨Nat.le_of_ble_eq_true rfl, Nat.le_of_ble_eq_true rfl⟩) hS hP (fun H locs hP hS => ?_)
  refine va_putF (D := D) (ci := 0) (v := .int (P_X1_nearest x1 (2) (16) (fun _ _ => 0))) (ty := .int) (C := RX0) (T := TX0) (N := 15) hx hb hts xin_X0 tyX0 tyX0_ok nmX0 hown hK hP hD hS 0 rfl rfl 0 (by decide) (hts (.fieldLink RX0 40 "LeverCurtain$Booth" "levers" "I") (lw_gm 146 (by decide +kernel) rfl)) (fun _ h9 => h9) rfl hin rfl (by decide +kernel) rfl rfl (Nat.le_of_ble_eq_true rfl) dX0_init_66 (fun H locs hP hD hS => ?_)
  have hP : va_P D vwCl [(a, .inr (0, [.int (P_X1_nearest x1 (2) (16) (fun _ _ => 0)), .int 0, .int 0, .ref q1, .ref q2, .ref q3, .ref q4, .int 0, .int (1), .int 0, .int 0, .int 0, .int 0, .ref q5, .ref q6])), (q1, .inl (cA 0, 6, .inl (fun _ => 0))), (q2, .inl (cA 0, 6, .inl (fun _ => 0))), (q3, .inl (cA 0, 10, .inl (fun _ => 0))), (q4, .inl (cA 0, 10, .inl (fun _ => 0))), (q5, .inl (cA 0, 1024, .inl (fun _ => 0))), (q6, .inl (cA 0, 16, .inl (fun _ => 0)))] H := hP
  have hD : va_D A [(a, .inr (0, [.int (P_X1_nearest x1 (2) (16) (fun _ _ => 0)), .int 0, .int 0, .ref q1, .ref q2, .ref q3, .ref q4, .int 0, .int (1), .int 0, .int 0, .int 0, .int 0, .ref q5, .ref q6])), (q1, .inl (cA 0, 6, .inl (fun _ => 0))), (q2, .inl (cA 0, 6, .inl (fun _ => 0))), (q3, .inl (cA 0, 10, .inl (fun _ => 0))), (q4, .inl (cA 0, 10, .inl (fun _ => 0))), (q5, .inl (cA 0, 1024, .inl (fun _ => 0))), (q6, .inl (cA 0, 16, .inl (fun _ => 0)))] := hD
  have hP9 := hP.sub (ws' := [(a, .inr (0, [.int (P_X1_nearest x1 (2) (16) (fun _ _ => 0)), .int 0, .int 0, .ref q1, .ref q2, .ref q3, .ref q4, .int 0, .int (1), .int 0, .int 0, .int 0, .int 0, .ref q5, .ref q6])), (q1, .inl (cA 0, 6, .inl (fun _ => 0))), (q2, .inl (cA 0, 6, .inl (fun _ => 0))), (q3, .inl (cA 0, 10, .inl (fun _ => 0))), (q4, .inl (cA 0, 10, .inl (fun _ => 0))), (q5, .inl (cA 0, 1024, .inl (fun _ => 0))), (q6, .inl (cA 0, 16, .inl (fun _ => 0)))]) [0, 1, 2, 3, 4, 5, 6] rfl
  have hD9 := hD.sub (ws' := [(a, .inr (0, [.int (P_X1_nearest x1 (2) (16) (fun _ _ => 0)), .int 0, .int 0, .ref q1, .ref q2, .ref q3, .ref q4, .int 0, .int (1), .int 0, .int 0, .int 0, .int 0, .ref q5, .ref q6])), (q1, .inl (cA 0, 6, .inl (fun _ => 0))), (q2, .inl (cA 0, 6, .inl (fun _ => 0))), (q3, .inl (cA 0, 10, .inl (fun _ => 0))), (q4, .inl (cA 0, 10, .inl (fun _ => 0))), (q5, .inl (cA 0, 1024, .inl (fun _ => 0))), (q6, .inl (cA 0, 16, .inl (fun _ => 0)))]) [0, 1, 2, 3, 4, 5, 6] (by decide) rfl
  exact W.vret hx hb hr (fun t ht hW => ⟨⟨fun k => ([q1, q2, q3, q4, q5, q6] : List Nat).getD k 0, rfl, trivial, by rw [ht]; exact hP9, va_K.moved hW.alike hK, hD9⟩, hS.F ht⟩) hS.2.2 dX0_init_69
set_option maxHeartbeats 8000000 in
set_option maxRecDepth 100000 in
theorem c_X9_init (l : Launch) (D : va_G) (cA : Nat → ClassId) (sa : Nat → Nat) (a sz : Nat)  : Met l yX9_init (xws yX9_init cX9_init 1 none) ({ frames := 8, cells := 1, slots := 120, locals := 512 }) (va_Pc [.ref a] (fun U => U.heap.size = sz ∧ va_P D vwCl [(a, .inr (8, [.null, .int 0]))] U.heap ∧ va_K D vwCl (xTy cA) U ∧ va_D (fun _ => True) [(a, .inr (8, [.null, .int 0]))] ∧ yZ (va_A [(a, .inr (8, [.null, .int 0]))] sz) sa U)) (va_Qv (fun _ : Nat → Nat => True) (fun u t => va_P D vwCl [(a, .inr (8, [.ref (u 0), .int 0])), ((u 0), .inl (cA 0, 120, .inl (fun _ => 0)))] t.heap ∧ va_K D vwCl (xTy cA) t ∧ va_D (va_A [(a, .inr (8, [.null, .int 0]))] sz) [(a, .inr (8, [.ref (u 0), .int 0])), ((u 0), .inl (cA 0, 120, .inl (fun _ => 0)))]) (va_A [(a, .inr (8, [.null, .int 0]))] sz)) 1 120 (va_A [(a, .inr (8, [.null, .int 0]))] sz) := by
  refine Met.ofW (cc := cX9_init) (maxL := 1) (ret := none) (by decide +kernel) rfl ?_
  intro p e s m args below meth c s₁ B hml hv
  obtain ⟨rfl, hsz, hP, hK, hD0, hZ⟩ := hv
  have hx := B.exec
  have hb := B.bytes
  have hr := B.returns
  have hts0 := atoms_spec (ws := xws yX9_init cX9_init 1 none) B.pre
  have hts : ∀ w ∈ lw_g, w.before _ s = true := fun w hw => hts0 w (List.mem_cons_of_mem _ hw)
  have hown : s.vm.findClass RX9 = some m.cls := findClass_of_methodNamed B.named
  have hlocks := B.notSynchronized
  have hin : meth.name = "<init>" := (name_of_methodNamed B.named B.method).1
  subst hsz
  have hD := hD0.self (sz := s.heap.size)
  generalize hAe : va_A [(a, .inr (8, [.null, .int 0]))] s.heap.size = A at hD hZ ⊢
  have hA : ∀ q : Nat, s.heap.size ≤ q → A q := fun q h => by rw [← hAe]; exact Or.inr h
  have hS : va_S A s.heap s.heap [] := va_S.rf
  have hl := lv_entry ([.ref a]) (n := 1) (Nat.le_of_ble_eq_true rfl)
  rw [lg_entry_eq]
  generalize (lg_sl ([.ref a]) ++ List.replicate (1 - (lg_sl ([.ref a])).length) Slot.unset).toArray = ls at hl ⊢
  have hl : lv_has ls 1 [(0, .ref a)] := hl
  refine lv_aload_n hx hb dX9_init_0 rfl (lv_at hl 0 rfl) ?_
  refine W.objInit hx hb hown (hts (.methodLink RX9 1 objectInit) (lw_gm 206 (by decide +kernel) rfl)) (hts _ cmem_oi) (hts _ cmem_oc) rfl (by rw [hml]; exact hl.1) rfl dX9_init_1 (Nat.le_of_ble_eq_true rfl) (Nat.le_of_ble_eq_true rfl) ?_
  refine W.eq (g2 := F0 m 4 ls []) rfl ?_
  refine lv_aload_n hx hb dX9_init_4 rfl (lv_at hl 0 rfl) ?_
  refine lv_bipush (v := (120 : Int32)) hx hb dX9_init_5 (by decide) ?_
  refine xnewa (t := 0) (atype := .int) (ty := .int) (N' := 120) rfl rfl xRA_int hx hb (hts _ cmem_ai) hK hP hD hS hA (fun _ => rfl) (by decide) (by decide) (by decide) (Nat.le_of_ble_eq_true rfl) (Nat.le_of_ble_eq_true rfl) dX9_init_7 (fun q1 H hP hD hS => ?_)
  have hP : va_P D vwCl [(a, .inr (8, [.null, .int 0])), (q1, .inl (cA 0, 120, .inl (fun _ => 0)))] H := hP
  have hD : va_D A [(a, .inr (8, [.null, .int 0])), (q1, .inl (cA 0, 120, .inl (fun _ => 0)))] := hD
  refine W.widen (k := 1) (n := 120) (Nat.le_of_ble_eq_true rfl) (Nat.le_of_ble_eq_true rfl) ?_
  refine va_putF (D := D) (ci := 8) (v := .ref q1) (ty := .array .int) (C := RX9) (T := TX9) (N := 2) hx hb hts xin_X9 tyX9 tyX9_ok nmX9 hown hK hP hD hS 0 rfl rfl 0 (by decide) (hts (.fieldLink RX9 9 "LeverCurtain$Tape" "bytes" "[I") (lw_gm 207 (by decide +kernel) rfl)) (fun _ h9 => h9) rfl hin rfl (by decide +kernel) rfl rfl (Nat.le_of_ble_eq_true rfl) dX9_init_9 (fun H locs hP hD hS => ?_)
  have hP : va_P D vwCl [(a, .inr (8, [.ref q1, .int 0])), (q1, .inl (cA 0, 120, .inl (fun _ => 0)))] H := hP
  have hD : va_D A [(a, .inr (8, [.ref q1, .int 0])), (q1, .inl (cA 0, 120, .inl (fun _ => 0)))] := hD
  have hP9 := hP.sub (ws' := [(a, .inr (8, [.ref q1, .int 0])), (q1, .inl (cA 0, 120, .inl (fun _ => 0)))]) [0, 1] rfl
  have hD9 := hD.sub (ws' := [(a, .inr (8, [.ref q1, .int 0])), (q1, .inl (cA 0, 120, .inl (fun _ => 0)))]) [0, 1] (by decide) rfl
  exact W.vret hx hb hr (fun t ht hW => ⟨⟨fun k => ([q1] : List Nat).getD k 0, rfl, trivial, by rw [ht]; exact hP9, va_K.moved hW.alike hK, hD9⟩, hS.F ht⟩) hS.2.2 dX9_init_12
set_option maxHeartbeats 8000000 in
set_option maxRecDepth 100000 in
theorem c_X3_init (l : Launch) (D : va_G) (cA : Nat → ClassId) (sa : Nat → Nat) (a sz : Nat)  : Met l yX3_init (xws yX3_init cX3_init 1 none) ({ frames := 8, cells := 2, slots := 125, locals := 512 }) (va_Pc [.ref a] (fun U => U.heap.size = sz ∧ va_P D vwCl [(a, .inr (2, [.int 0, .null, .null, .int 0, .int 0]))] U.heap ∧ va_K D vwCl (xTy cA) U ∧ va_D (fun _ => True) [(a, .inr (2, [.int 0, .null, .null, .int 0, .int 0]))] ∧ yZ (va_A [(a, .inr (2, [.int 0, .null, .null, .int 0, .int 0]))] sz) sa U)) (va_Qv (fun _ : Nat → Nat => True) (fun u t => va_P D vwCl [(a, .inr (2, [.int (-1), .ref (u 0), .ref (u 1), .int 0, .int 0])), ((u 0), .inl (cA 0, 120, .inl (fun _ => 0))), ((u 1), .inl (cA 0, 5, .inl (fun _ => 0)))] t.heap ∧ va_K D vwCl (xTy cA) t ∧ va_D (va_A [(a, .inr (2, [.int 0, .null, .null, .int 0, .int 0]))] sz) [(a, .inr (2, [.int (-1), .ref (u 0), .ref (u 1), .int 0, .int 0])), ((u 0), .inl (cA 0, 120, .inl (fun _ => 0))), ((u 1), .inl (cA 0, 5, .inl (fun _ => 0)))]) (va_A [(a, .inr (2, [.int 0, .null, .null, .int 0, .int 0]))] sz)) 2 125 (va_A [(a, .inr (2, [.int 0, .null, .null, .int 0, .int 0]))] sz) := by
  refine Met.ofW (cc := cX3_init) (maxL := 1) (ret := none) (by decide +kernel) rfl ?_
  intro p e s m args below meth c s₁ B hml hv
  obtain ⟨rfl, hsz, hP, hK, hD0, hZ⟩ := hv
  have hx := B.exec
  have hb := B.bytes
  have hr := B.returns
  have hts0 := atoms_spec (ws := xws yX3_init cX3_init 1 none) B.pre
  have hts : ∀ w ∈ lw_g, w.before _ s = true := fun w hw => hts0 w (List.mem_cons_of_mem _ hw)
  have hown : s.vm.findClass RX3 = some m.cls := findClass_of_methodNamed B.named
  have hlocks := B.notSynchronized
  have hin : meth.name = "<init>" := (name_of_methodNamed B.named B.method).1
  subst hsz
  have hD := hD0.self (sz := s.heap.size)
  generalize hAe : va_A [(a, .inr (2, [.int 0, .null, .null, .int 0, .int 0]))] s.heap.size = A at hD hZ ⊢
  have hA : ∀ q : Nat, s.heap.size ≤ q → A q := fun q h => by rw [← hAe]; exact Or.inr h
  have hS : va_S A s.heap s.heap [] := va_S.rf
  have hl := lv_entry ([.ref a]) (n := 1) (Nat.le_of_ble_eq_true rfl)
  rw [lg_entry_eq]
  generalize (lg_sl ([.ref a]) ++ List.replicate (1 - (lg_sl ([.ref a])).length) Slot.unset).toArray = ls at hl ⊢
  have hl : lv_has ls 1 [(0, .ref a)] := hl
  refine lv_aload_n hx hb dX3_init_0 rfl (lv_at hl 0 rfl) ?_
  refine W.objInit hx hb hown (hts (.methodLink RX3 3 objectInit) (lw_gm 230 (by decide +kernel) rfl)) (hts _ cmem_oi) (hts _ cmem_oc) rfl (by rw [hml]; exact hl.1) rfl dX3_init_1 (Nat.le_of_ble_eq_true rfl) (Nat.le_of_ble_eq_true rfl) ?_
  refine W.eq (g2 := F0 m 4 ls []) rfl ?_
  refine lv_aload_n hx hb dX3_init_4 rfl (lv_at hl 0 rfl) ?_
  refine lv_iconst (v := (-1 : Int32)) hx hb dX3_init_5 (by decide) ?_
  refine va_put (D := D) (ci := 2) (v := .int (-1)) (ty := .int) (C := RX3) (T := TX3) (N := 5) hx hb hts xin_X3 tyX3 tyX3_ok nmX3 hown hK hP hD hS 0 rfl rfl 0 (by decide) (hts (.fieldLink RX3 9 "LeverCurtain$LawReader" "fault" "I") (lw_gm 231 (by decide +kernel) rfl)) (fun _ h9 => h9) rfl (by decide +kernel) rfl rfl (Nat.le_of_ble_eq_true rfl) dX3_init_6 (fun H locs hP hD hS => ?_)
  have hP : va_P D vwCl [(a, .inr (2, [.int (-1), .null, .null, .int 0, .int 0]))] H := hP
  have hD : va_D A [(a, .inr (2, [.int (-1), .null, .null, .int 0, .int 0]))] := hD
  refine lv_aload_n hx hb dX3_init_9 rfl (lv_at hl 0 rfl) ?_
  refine lv_bipush (v := (120 : Int32)) hx hb dX3_init_10 (by decide) ?_
  refine xnewa (t := 0) (atype := .int) (ty := .int) (N' := 120) rfl rfl xRA_int hx hb (hts _ cmem_ai) hK hP hD hS hA (fun _ => rfl) (by decide) (by decide) (by decide) (Nat.le_of_ble_eq_true rfl) (Nat.le_of_ble_eq_true rfl) dX3_init_12 (fun q1 H hP hD hS => ?_)
  have hP : va_P D vwCl [(a, .inr (2, [.int (-1), .null, .null, .int 0, .int 0])), (q1, .inl (cA 0, 120, .inl (fun _ => 0)))] H := hP
  have hD : va_D A [(a, .inr (2, [.int (-1), .null, .null, .int 0, .int 0])), (q1, .inl (cA 0, 120, .inl (fun _ => 0)))] := hD
  refine W.widen (k := 1) (n := 120) (Nat.le_of_ble_eq_true rfl) (Nat.le_of_ble_eq_true rfl) ?_
  refine va_putF (D := D) (ci := 2) (v := .ref q1) (ty := .array .int) (C := RX3) (T := TX3) (N := 5) hx hb hts xin_X3 tyX3 tyX3_ok nmX3 hown hK hP hD hS 0 rfl rfl 1 (by decide) (hts (.fieldLink RX3 17 "LeverCurtain$LawReader" "text" "[I") (lw_gm 233 (by decide +kernel) rfl)) (fun _ h9 => h9) rfl hin rfl (by decide +kernel) rfl rfl (Nat.le_of_ble_eq_true rfl) dX3_init_14 (fun H locs hP hD hS => ?_)
  have hP : va_P D vwCl [(a, .inr (2, [.int (-1), .ref q1, .null, .int 0, .int 0])), (q1, .inl (cA 0, 120, .inl (fun _ => 0)))] H := hP
  have hD : va_D A [(a, .inr (2, [.int (-1), .ref q1, .null, .int 0, .int 0])), (q1, .inl (cA 0, 120, .inl (fun _ => 0)))] := hD
  refine lv_aload_n hx hb dX3_init_17 rfl (lv_at hl 0 rfl) ?_
  refine lv_iconst (v := (5 : Int32)) hx hb dX3_init_18 (by decide) ?_
  refine xnewa (t := 0) (atype := .int) (ty := .int) (N' := 5) rfl rfl xRA_int hx hb (hts _ cmem_ai) hK hP hD hS hA (fun _ => rfl) (by decide) (by decide) (by decide) (Nat.le_of_ble_eq_true rfl) (Nat.le_of_ble_eq_true rfl) dX3_init_19 (fun q2 H hP hD hS => ?_)
  have hP : va_P D vwCl [(a, .inr (2, [.int (-1), .ref q1, .null, .int 0, .int 0])), (q1, .inl (cA 0, 120, .inl (fun _ => 0))), (q2, .inl (cA 0, 5, .inl (fun _ => 0)))] H := hP
  have hD : va_D A [(a, .inr (2, [.int (-1), .ref q1, .null, .int 0, .int 0])), (q1, .inl (cA 0, 120, .inl (fun _ => 0))), (q2, .inl (cA 0, 5, .inl (fun _ => 0)))] := hD
  refine W.widen (k := 2) (n := 125) (Nat.le_of_ble_eq_true rfl) (Nat.le_of_ble_eq_true rfl) ?_
  refine va_putF (D := D) (ci := 2) (v := .ref q2) (ty := .array .int) (C := RX3) (T := TX3) (N := 5) hx hb hts xin_X3 tyX3 tyX3_ok nmX3 hown hK hP hD hS 0 rfl rfl 2 (by decide) (hts (.fieldLink RX3 23 "LeverCurtain$LawReader" "books" "[I") (lw_gm 234 (by decide +kernel) rfl)) (fun _ h9 => h9) rfl hin rfl (by decide +kernel) rfl rfl (Nat.le_of_ble_eq_true rfl) dX3_init_21 (fun H locs hP hD hS => ?_)
  have hP : va_P D vwCl [(a, .inr (2, [.int (-1), .ref q1, .ref q2, .int 0, .int 0])), (q1, .inl (cA 0, 120, .inl (fun _ => 0))), (q2, .inl (cA 0, 5, .inl (fun _ => 0)))] H := hP
  have hD : va_D A [(a, .inr (2, [.int (-1), .ref q1, .ref q2, .int 0, .int 0])), (q1, .inl (cA 0, 120, .inl (fun _ => 0))), (q2, .inl (cA 0, 5, .inl (fun _ => 0)))] := hD
  have hP9 := hP.sub (ws' := [(a, .inr (2, [.int (-1), .ref q1, .ref q2, .int 0, .int 0])), (q1, .inl (cA 0, 120, .inl (fun _ => 0))), (q2, .inl (cA 0, 5, .inl (fun _ => 0)))]) [0, 1, 2] rfl
  have hD9 := hD.sub (ws' := [(a, .inr (2, [.int (-1), .ref q1, .ref q2, .int 0, .int 0])), (q1, .inl (cA 0, 120, .inl (fun _ => 0))), (q2, .inl (cA 0, 5, .inl (fun _ => 0)))]) [0, 1, 2] (by decide) rfl
  exact W.vret hx hb hr (fun t ht hW => ⟨⟨fun k => ([q1, q2] : List Nat).getD k 0, rfl, trivial, by rw [ht]; exact hP9, va_K.moved hW.alike hK, hD9⟩, hS.F ht⟩) hS.2.2 dX3_init_24
set_option maxHeartbeats 8000000 in
set_option maxRecDepth 100000 in
theorem c_X5_init (l : Launch) (D : va_G) (cA : Nat → ClassId) (sa : Nat → Nat) (a sz : Nat) (p1 : Nat) : Met l yX5_init (xws yX5_init cX5_init 2 none) ({ frames := 8, cells := 11, slots := 1158, locals := 512 }) (va_Pc [.ref a, .ref p1] (fun U => U.heap.size = sz ∧ va_P D vwCl [(a, .inr (4, [.null, .int 0, .null, .null, .null, .null, .null, .null, .null, .null, .null, .null, .null]))] U.heap ∧ va_K D vwCl (xTy cA) U ∧ va_D (fun _ => True) [(a, .inr (4, [.null, .int 0, .null, .null, .null, .null, .null, .null, .null, .null, .null, .null, .null]))] ∧ yZ (va_A [(a, .inr (4, [.null, .int 0, .null, .null, .null, .null, .null, .null, .null, .null, .null, .null, .null]))] sz) sa U)) (va_Qv (fun _ : Nat → Nat => True) (fun u t => va_P D vwCl [(a, .inr (4, [.ref p1, .int 0, .ref (u 0), .ref (u 1), .ref (u 2), .ref (u 3), .ref (u 4), .ref (u 5), .ref (u 6), .ref (u 7), .ref (u 8), .ref (u 9), .ref (u 10)])), ((u 0), .inl (cA 0, 30, .inl (fun _ => 0))), ((u 1), .inl (cA 0, 6, .inl (fun _ => 0))), ((u 2), .inl (cA 0, 6, .inl (fun _ => 0))), ((u 3), .inl (cA 0, 6, .inl (fun _ => 0))), ((u 4), .inl (cA 0, 96, .inl (fun _ => 0))), ((u 5), .inl (cA 0, 6, .inl (fun _ => 0))), ((u 6), .inl (cA 0, 48, .inl (fun _ => 0))), ((u 7), .inl (cA 0, 48, .inl (fun _ => 0))), ((u 8), .inl (cA 0, 48, .inl (fun _ => 0))), ((u 9), .inl (cA 0, 96, .inl (fun _ => 0))), ((u 10), .inl (cA 0, 768, .inl (fun _ => 0)))] t.heap ∧ va_K D vwCl (xTy cA) t ∧ va_D (va_A [(a, .inr (4, [.null, .int 0, .null, .null, .null, .null, .null, .null, .null, .null, .null, .null, .null]))] sz) [(a, .inr (4, [.ref p1, .int 0, .ref (u 0), .ref (u 1), .ref (u 2), .ref (u 3), .ref (u 4), .ref (u 5), .ref (u 6), .ref (u 7), .ref (u 8), .ref (u 9), .ref (u 10)])), ((u 0), .inl (cA 0, 30, .inl (fun _ => 0))), ((u 1), .inl (cA 0, 6, .inl (fun _ => 0))), ((u 2), .inl (cA 0, 6, .inl (fun _ => 0))), ((u 3), .inl (cA 0, 6, .inl (fun _ => 0))), ((u 4), .inl (cA 0, 96, .inl (fun _ => 0))), ((u 5), .inl (cA 0, 6, .inl (fun _ => 0))), ((u 6), .inl (cA 0, 48, .inl (fun _ => 0))), ((u 7), .inl (cA 0, 48, .inl (fun _ => 0))), ((u 8), .inl (cA 0, 48, .inl (fun _ => 0))), ((u 9), .inl (cA 0, 96, .inl (fun _ => 0))), ((u 10), .inl (cA 0, 768, .inl (fun _ => 0)))]) (va_A [(a, .inr (4, [.null, .int 0, .null, .null, .null, .null, .null, .null, .null, .null, .null, .null, .null]))] sz)) 11 1158 (va_A [(a, .inr (4, [.null, .int 0, .null, .null, .null, .null, .null, .null, .null, .null, .null, .null, .null]))] sz) := by
  refine Met.ofW (cc := cX5_init) (maxL := 2) (ret := none) (by decide +kernel) rfl ?_
  intro p e s m args below meth c s₁ B hml hv
  obtain ⟨rfl, hsz, hP, hK, hD0, hZ⟩ := hv
  have hx := B.exec
  have hb := B.bytes
  have hr := B.returns
  have hts0 := atoms_spec (ws := xws yX5_init cX5_init 2 none) B.pre
  have hts : ∀ w ∈ lw_g, w.before _ s = true := fun w hw => hts0 w (List.mem_cons_of_mem _ hw)
  have hown : s.vm.findClass RX5 = some m.cls := findClass_of_methodNamed B.named
  have hlocks := B.notSynchronized
  have hin : meth.name = "<init>" := (name_of_methodNamed B.named B.method).1
  subst hsz
  have hD := hD0.self (sz := s.heap.size)
  generalize hAe : va_A [(a, .inr (4, [.null, .int 0, .null, .null, .null, .null, .null, .null, .null, .null, .null, .null, .null]))] s.heap.size = A at hD hZ ⊢
  have hA : ∀ q : Nat, s.heap.size ≤ q → A q := fun q h => by rw [← hAe]; exact Or.inr h
  have hS : va_S A s.heap s.heap [] := va_S.rf
  have hl := lv_entry ([.ref a, .ref p1]) (n := 2) (Nat.le_of_ble_eq_true rfl)
  rw [lg_entry_eq]
  generalize (lg_sl ([.ref a, .ref p1]) ++ List.replicate (2 - (lg_sl ([.ref a, .ref p1])).length) Slot.unset).toArray = ls at hl ⊢
  have hl : lv_has ls 2 [(0, .ref a), (1, .ref p1)] := hl
  refine lv_aload_n hx hb dX5_init_0 rfl (lv_at hl 0 rfl) ?_
  refine W.objInit hx hb hown (hts (.methodLink RX5 3 objectInit) (lw_gm 271 (by decide +kernel) rfl)) (hts _ cmem_oi) (hts _ cmem_oc) rfl (by rw [hml]; exact hl.1) rfl dX5_init_1 (Nat.le_of_ble_eq_true rfl) (Nat.le_of_ble_eq_true rfl) ?_
  refine W.eq (g2 := F0 m 4 ls []) rfl ?_
  refine lv_aload_n hx hb dX5_init_4 rfl (lv_at hl 0 rfl) ?_
  refine lv_bipush (v := (30 : Int32)) hx hb dX5_init_5 (by decide) ?_
  refine xnewa (t := 0) (atype := .int) (ty := .int) (N' := 30) rfl rfl xRA_int hx hb (hts _ cmem_ai) hK hP hD hS hA (fun _ => rfl) (by decide) (by decide) (by decide) (Nat.le_of_ble_eq_true rfl) (Nat.le_of_ble_eq_true rfl) dX5_init_7 (fun q1 H hP hD hS => ?_)
  have hP : va_P D vwCl [(a, .inr (4, [.null, .int 0, .null, .null, .null, .null, .null, .null, .null, .null, .null, .null, .null])), (q1, .inl (cA 0, 30, .inl (fun _ => 0)))] H := hP
  have hD : va_D A [(a, .inr (4, [.null, .int 0, .null, .null, .null, .null, .null, .null, .null, .null, .null, .null, .null])), (q1, .inl (cA 0, 30, .inl (fun _ => 0)))] := hD
  refine W.widen (k := 1) (n := 30) (Nat.le_of_ble_eq_true rfl) (Nat.le_of_ble_eq_true rfl) ?_
  refine va_putF (D := D) (ci := 4) (v := .ref q1) (ty := .array .int) (C := RX5) (T := TX5) (N := 13) hx hb hts xin_X5 tyX5 tyX5_ok nmX5 hown hK hP hD hS 0 rfl rfl 2 (by decide) (hts (.fieldLink RX5 11 "LeverCurtain$Machines" "books" "[I") (lw_gm 276 (by decide +kernel) rfl)) (fun _ h9 => h9) rfl hin rfl (by decide +kernel) rfl rfl (Nat.le_of_ble_eq_true rfl) dX5_init_9 (fun H locs hP hD hS => ?_)
  have hP : va_P D vwCl [(a, .inr (4, [.null, .int 0, .ref q1, .null, .null, .null, .null, .null, .null, .null, .null, .null, .null])), (q1, .inl (cA 0, 30, .inl (fun _ => 0)))] H := hP
  have hD : va_D A [(a, .inr (4, [.null, .int 0, .ref q1, .null, .null, .null, .null, .null, .null, .null, .null, .null, .null])), (q1, .inl (cA 0, 30, .inl (fun _ => 0)))] := hD
  refine lv_aload_n hx hb dX5_init_12 rfl (lv_at hl 0 rfl) ?_
  refine lv_bipush (v := (6 : Int32)) hx hb dX5_init_13 (by decide) ?_
  refine xnewa (t := 0) (atype := .int) (ty := .int) (N' := 6) rfl rfl xRA_int hx hb (hts _ cmem_ai) hK hP hD hS hA (fun _ => rfl) (by decide) (by decide) (by decide) (Nat.le_of_ble_eq_true rfl) (Nat.le_of_ble_eq_true rfl) dX5_init_15 (fun q2 H hP hD hS => ?_)
  have hP : va_P D vwCl [(a, .inr (4, [.null, .int 0, .ref q1, .null, .null, .null, .null, .null, .null, .null, .null, .null, .null])), (q1, .inl (cA 0, 30, .inl (fun _ => 0))), (q2, .inl (cA 0, 6, .inl (fun _ => 0)))] H := hP
  have hD : va_D A [(a, .inr (4, [.null, .int 0, .ref q1, .null, .null, .null, .null, .null, .null, .null, .null, .null, .null])), (q1, .inl (cA 0, 30, .inl (fun _ => 0))), (q2, .inl (cA 0, 6, .inl (fun _ => 0)))] := hD
  refine W.widen (k := 2) (n := 36) (Nat.le_of_ble_eq_true rfl) (Nat.le_of_ble_eq_true rfl) ?_
  refine va_putF (D := D) (ci := 4) (v := .ref q2) (ty := .array .int) (C := RX5) (T := TX5) (N := 13) hx hb hts xin_X5 tyX5 tyX5_ok nmX5 hown hK hP hD hS 0 rfl rfl 3 (by decide) (hts (.fieldLink RX5 15 "LeverCurtain$Machines" "voters" "[I") (lw_gm 278 (by decide +kernel) rfl)) (fun _ h9 => h9) rfl hin rfl (by decide +kernel) rfl rfl (Nat.le_of_ble_eq_true rfl) dX5_init_17 (fun H locs hP hD hS => ?_)
  have hP : va_P D vwCl [(a, .inr (4, [.null, .int 0, .ref q1, .ref q2, .null, .null, .null, .null, .null, .null, .null, .null, .null])), (q1, .inl (cA 0, 30, .inl (fun _ => 0))), (q2, .inl (cA 0, 6, .inl (fun _ => 0)))] H := hP
  have hD : va_D A [(a, .inr (4, [.null, .int 0, .ref q1, .ref q2, .null, .null, .null, .null, .null, .null, .null, .null, .null])), (q1, .inl (cA 0, 30, .inl (fun _ => 0))), (q2, .inl (cA 0, 6, .inl (fun _ => 0)))] := hD
  refine lv_aload_n hx hb dX5_init_20 rfl (lv_at hl 0 rfl) ?_
  refine lv_bipush (v := (6 : Int32)) hx hb dX5_init_21 (by decide) ?_
  refine xnewa (t := 0) (atype := .int) (ty := .int) (N' := 6) rfl rfl xRA_int hx hb (hts _ cmem_ai) hK hP hD hS hA (fun _ => rfl) (by decide) (by decide) (by decide) (Nat.le_of_ble_eq_true rfl) (Nat.le_of_ble_eq_true rfl) dX5_init_23 (fun q3 H hP hD hS => ?_)
  have hP : va_P D vwCl [(a, .inr (4, [.null, .int 0, .ref q1, .ref q2, .null, .null, .null, .null, .null, .null, .null, .null, .null])), (q1, .inl (cA 0, 30, .inl (fun _ => 0))), (q2, .inl (cA 0, 6, .inl (fun _ => 0))), (q3, .inl (cA 0, 6, .inl (fun _ => 0)))] H := hP
  have hD : va_D A [(a, .inr (4, [.null, .int 0, .ref q1, .ref q2, .null, .null, .null, .null, .null, .null, .null, .null, .null])), (q1, .inl (cA 0, 30, .inl (fun _ => 0))), (q2, .inl (cA 0, 6, .inl (fun _ => 0))), (q3, .inl (cA 0, 6, .inl (fun _ => 0)))] := hD
  refine W.widen (k := 3) (n := 42) (Nat.le_of_ble_eq_true rfl) (Nat.le_of_ble_eq_true rfl) ?_
  refine va_putF (D := D) (ci := 4) (v := .ref q3) (ty := .array .int) (C := RX5) (T := TX5) (N := 13) hx hb hts xin_X5 tyX5 tyX5_ok nmX5 hown hK hP hD hS 0 rfl rfl 4 (by decide) (hts (.fieldLink RX5 18 "LeverCurtain$Machines" "opened" "[I") (lw_gm 281 (by decide +kernel) rfl)) (fun _ h9 => h9) rfl hin rfl (by decide +kernel) rfl rfl (Nat.le_of_ble_eq_true rfl) dX5_init_25 (fun H locs hP hD hS => ?_)
  have hP : va_P D vwCl [(a, .inr (4, [.null, .int 0, .ref q1, .ref q2, .ref q3, .null, .null, .null, .null, .null, .null, .null, .null])), (q1, .inl (cA 0, 30, .inl (fun _ => 0))), (q2, .inl (cA 0, 6, .inl (fun _ => 0))), (q3, .inl (cA 0, 6, .inl (fun _ => 0)))] H := hP
  have hD : va_D A [(a, .inr (4, [.null, .int 0, .ref q1, .ref q2, .ref q3, .null, .null, .null, .null, .null, .null, .null, .null])), (q1, .inl (cA 0, 30, .inl (fun _ => 0))), (q2, .inl (cA 0, 6, .inl (fun _ => 0))), (q3, .inl (cA 0, 6, .inl (fun _ => 0)))] := hD
  refine lv_aload_n hx hb dX5_init_28 rfl (lv_at hl 0 rfl) ?_
  refine lv_bipush (v := (6 : Int32)) hx hb dX5_init_29 (by decide) ?_
  refine xnewa (t := 0) (atype := .int) (ty := .int) (N' := 6) rfl rfl xRA_int hx hb (hts _ cmem_ai) hK hP hD hS hA (fun _ => rfl) (by decide) (by decide) (by decide) (Nat.le_of_ble_eq_true rfl) (Nat.le_of_ble_eq_true rfl) dX5_init_31 (fun q4 H hP hD hS => ?_)
  have hP : va_P D vwCl [(a, .inr (4, [.null, .int 0, .ref q1, .ref q2, .ref q3, .null, .null, .null, .null, .null, .null, .null, .null])), (q1, .inl (cA 0, 30, .inl (fun _ => 0))), (q2, .inl (cA 0, 6, .inl (fun _ => 0))), (q3, .inl (cA 0, 6, .inl (fun _ => 0))), (q4, .inl (cA 0, 6, .inl (fun _ => 0)))] H := hP
  have hD : va_D A [(a, .inr (4, [.null, .int 0, .ref q1, .ref q2, .ref q3, .null, .null, .null, .null, .null, .null, .null, .null])), (q1, .inl (cA 0, 30, .inl (fun _ => 0))), (q2, .inl (cA 0, 6, .inl (fun _ => 0))), (q3, .inl (cA 0, 6, .inl (fun _ => 0))), (q4, .inl (cA 0, 6, .inl (fun _ => 0)))] := hD
  refine W.widen (k := 4) (n := 48) (Nat.le_of_ble_eq_true rfl) (Nat.le_of_ble_eq_true rfl) ?_
  refine va_putF (D := D) (ci := 4) (v := .ref q4) (ty := .array .int) (C := RX5) (T := TX5) (N := 13) hx hb hts xin_X5 tyX5 tyX5_ok nmX5 hown hK hP hD hS 0 rfl rfl 5 (by decide) (hts (.fieldLink RX5 21 "LeverCurtain$Machines" "costs" "[I") (lw_gm 284 (by decide +kernel) rfl)) (fun _ h9 => h9) rfl hin rfl (by decide +kernel) rfl rfl (Nat.le_of_ble_eq_true rfl) dX5_init_33 (fun H locs hP hD hS => ?_)
  have hP : va_P D vwCl [(a, .inr (4, [.null, .int 0, .ref q1, .ref q2, .ref q3, .ref q4, .null, .null, .null, .null, .null, .null, .null])), (q1, .inl (cA 0, 30, .inl (fun _ => 0))), (q2, .inl (cA 0, 6, .inl (fun _ => 0))), (q3, .inl (cA 0, 6, .inl (fun _ => 0))), (q4, .inl (cA 0, 6, .inl (fun _ => 0)))] H := hP
  have hD : va_D A [(a, .inr (4, [.null, .int 0, .ref q1, .ref q2, .ref q3, .ref q4, .null, .null, .null, .null, .null, .null, .null])), (q1, .inl (cA 0, 30, .inl (fun _ => 0))), (q2, .inl (cA 0, 6, .inl (fun _ => 0))), (q3, .inl (cA 0, 6, .inl (fun _ => 0))), (q4, .inl (cA 0, 6, .inl (fun _ => 0)))] := hD
  refine lv_aload_n hx hb dX5_init_36 rfl (lv_at hl 0 rfl) ?_
  refine lv_bipush (v := (96 : Int32)) hx hb dX5_init_37 (by decide) ?_
  refine xnewa (t := 0) (atype := .int) (ty := .int) (N' := 96) rfl rfl xRA_int hx hb (hts _ cmem_ai) hK hP hD hS hA (fun _ => rfl) (by decide) (by decide) (by decide) (Nat.le_of_ble_eq_true rfl) (Nat.le_of_ble_eq_true rfl) dX5_init_39 (fun q5 H hP hD hS => ?_)
  have hP : va_P D vwCl [(a, .inr (4, [.null, .int 0, .ref q1, .ref q2, .ref q3, .ref q4, .null, .null, .null, .null, .null, .null, .null])), (q1, .inl (cA 0, 30, .inl (fun _ => 0))), (q2, .inl (cA 0, 6, .inl (fun _ => 0))), (q3, .inl (cA 0, 6, .inl (fun _ => 0))), (q4, .inl (cA 0, 6, .inl (fun _ => 0))), (q5, .inl (cA 0, 96, .inl (fun _ => 0)))] H := hP
  have hD : va_D A [(a, .inr (4, [.null, .int 0, .ref q1, .ref q2, .ref q3, .ref q4, .null, .null, .null, .null, .null, .null, .null])), (q1, .inl (cA 0, 30, .inl (fun _ => 0))), (q2, .inl (cA 0, 6, .inl (fun _ => 0))), (q3, .inl (cA 0, 6, .inl (fun _ => 0))), (q4, .inl (cA 0, 6, .inl (fun _ => 0))), (q5, .inl (cA 0, 96, .inl (fun _ => 0)))] := hD
  refine W.widen (k := 5) (n := 144) (Nat.le_of_ble_eq_true rfl) (Nat.le_of_ble_eq_true rfl) ?_
  refine va_putF (D := D) (ci := 4) (v := .ref q5) (ty := .array .int) (C := RX5) (T := TX5) (N := 13) hx hb hts xin_X5 tyX5 tyX5_ok nmX5 hown hK hP hD hS 0 rfl rfl 6 (by decide) (hts (.fieldLink RX5 26 "LeverCurtain$Machines" "shown" "[I") (lw_gm 287 (by decide +kernel) rfl)) (fun _ h9 => h9) rfl hin rfl (by decide +kernel) rfl rfl (Nat.le_of_ble_eq_true rfl) dX5_init_41 (fun H locs hP hD hS => ?_)
  have hP : va_P D vwCl [(a, .inr (4, [.null, .int 0, .ref q1, .ref q2, .ref q3, .ref q4, .ref q5, .null, .null, .null, .null, .null, .null])), (q1, .inl (cA 0, 30, .inl (fun _ => 0))), (q2, .inl (cA 0, 6, .inl (fun _ => 0))), (q3, .inl (cA 0, 6, .inl (fun _ => 0))), (q4, .inl (cA 0, 6, .inl (fun _ => 0))), (q5, .inl (cA 0, 96, .inl (fun _ => 0)))] H := hP
  have hD : va_D A [(a, .inr (4, [.null, .int 0, .ref q1, .ref q2, .ref q3, .ref q4, .ref q5, .null, .null, .null, .null, .null, .null])), (q1, .inl (cA 0, 30, .inl (fun _ => 0))), (q2, .inl (cA 0, 6, .inl (fun _ => 0))), (q3, .inl (cA 0, 6, .inl (fun _ => 0))), (q4, .inl (cA 0, 6, .inl (fun _ => 0))), (q5, .inl (cA 0, 96, .inl (fun _ => 0)))] := hD
  refine lv_aload_n hx hb dX5_init_44 rfl (lv_at hl 0 rfl) ?_
  refine lv_bipush (v := (6 : Int32)) hx hb dX5_init_45 (by decide) ?_
  refine xnewa (t := 0) (atype := .int) (ty := .int) (N' := 6) rfl rfl xRA_int hx hb (hts _ cmem_ai) hK hP hD hS hA (fun _ => rfl) (by decide) (by decide) (by decide) (Nat.le_of_ble_eq_true rfl) (Nat.le_of_ble_eq_true rfl) dX5_init_47 (fun q6 H hP hD hS => ?_)
  have hP : va_P D vwCl [(a, .inr (4, [.null, .int 0, .ref q1, .ref q2, .ref q3, .ref q4, .ref q5, .null, .null, .null, .null, .null, .null])), (q1, .inl (cA 0, 30, .inl (fun _ => 0))), (q2, .inl (cA 0, 6, .inl (fun _ => 0))), (q3, .inl (cA 0, 6, .inl (fun _ => 0))), (q4, .inl (cA 0, 6, .inl (fun _ => 0))), (q5, .inl (cA 0, 96, .inl (fun _ => 0))), (q6, .inl (cA 0, 6, .inl (fun _ => 0)))] H := hP
  have hD : va_D A [(a, .inr (4, [.null, .int 0, .ref q1, .ref q2, .ref q3, .ref q4, .ref q5, .null, .null, .null, .null, .null, .null])), (q1, .inl (cA 0, 30, .inl (fun _ => 0))), (q2, .inl (cA 0, 6, .inl (fun _ => 0))), (q3, .inl (cA 0, 6, .inl (fun _ => 0))), (q4, .inl (cA 0, 6, .inl (fun _ => 0))), (q5, .inl (cA 0, 96, .inl (fun _ => 0))), (q6, .inl (cA 0, 6, .inl (fun _ => 0)))] := hD
  refine W.widen (k := 6) (n := 150) (Nat.le_of_ble_eq_true rfl) (Nat.le_of_ble_eq_true rfl) ?_
  refine va_putF (D := D) (ci := 4) (v := .ref q6) (ty := .array .int) (C := RX5) (T := TX5) (N := 13) hx hb hts xin_X5 tyX5 tyX5_ok nmX5 hown hK hP hD hS 0 rfl rfl 7 (by decide) (hts (.fieldLink RX5 29 "LeverCurtain$Machines" "faults" "[I") (lw_gm 288 (by decide +kernel) rfl)) (fun _ h9 => h9) rfl hin rfl (by decide +kernel) rfl rfl (Nat.le_of_ble_eq_true rfl) dX5_init_49 (fun H locs hP hD hS => ?_)
  have hP : va_P D vwCl [(a, .inr (4, [.null, .int 0, .ref q1, .ref q2, .ref q3, .ref q4, .ref q5, .ref q6, .null, .null, .null, .null, .null])), (q1, .inl (cA 0, 30, .inl (fun _ => 0))), (q2, .inl (cA 0, 6, .inl (fun _ => 0))), (q3, .inl (cA 0, 6, .inl (fun _ => 0))), (q4, .inl (cA 0, 6, .inl (fun _ => 0))), (q5, .inl (cA 0, 96, .inl (fun _ => 0))), (q6, .inl (cA 0, 6, .inl (fun _ => 0)))] H := hP
  have hD : va_D A [(a, .inr (4, [.null, .int 0, .ref q1, .ref q2, .ref q3, .ref q4, .ref q5, .ref q6, .null, .null, .null, .null, .null])), (q1, .inl (cA 0, 30, .inl (fun _ => 0))), (q2, .inl (cA 0, 6, .inl (fun _ => 0))), (q3, .inl (cA 0, 6, .inl (fun _ => 0))), (q4, .inl (cA 0, 6, .inl (fun _ => 0))), (q5, .inl (cA 0, 96, .inl (fun _ => 0))), (q6, .inl (cA 0, 6, .inl (fun _ => 0)))] := hD
  refine lv_aload_n hx hb dX5_init_52 rfl (lv_at hl 0 rfl) ?_
  refine lv_bipush (v := (48 : Int32)) hx hb dX5_init_53 (by decide) ?_
  refine xnewa (t := 0) (atype := .int) (ty := .int) (N' := 48) rfl rfl xRA_int hx hb (hts _ cmem_ai) hK hP hD hS hA (fun _ => rfl) (by decide) (by decide) (by decide) (Nat.le_of_ble_eq_true rfl) (Nat.le_of_ble_eq_true rfl) dX5_init_55 (fun q7 H hP hD hS => ?_)
  have hP : va_P D vwCl [(a, .inr (4, [.null, .int 0, .ref q1, .ref q2, .ref q3, .ref q4, .ref q5, .ref q6, .null, .null, .null, .null, .null])), (q1, .inl (cA 0, 30, .inl (fun _ => 0))), (q2, .inl (cA 0, 6, .inl (fun _ => 0))), (q3, .inl (cA 0, 6, .inl (fun _ => 0))), (q4, .inl (cA 0, 6, .inl (fun _ => 0))), (q5, .inl (cA 0, 96, .inl (fun _ => 0))), (q6, .inl (cA 0, 6, .inl (fun _ => 0))), (q7, .inl (cA 0, 48, .inl (fun _ => 0)))] H := hP
  have hD : va_D A [(a, .inr (4, [.null, .int 0, .ref q1, .ref q2, .ref q3, .ref q4, .ref q5, .ref q6, .null, .null, .null, .null, .null])), (q1, .inl (cA 0, 30, .inl (fun _ => 0))), (q2, .inl (cA 0, 6, .inl (fun _ => 0))), (q3, .inl (cA 0, 6, .inl (fun _ => 0))), (q4, .inl (cA 0, 6, .inl (fun _ => 0))), (q5, .inl (cA 0, 96, .inl (fun _ => 0))), (q6, .inl (cA 0, 6, .inl (fun _ => 0))), (q7, .inl (cA 0, 48, .inl (fun _ => 0)))] := hD
  refine W.widen (k := 7) (n := 198) (Nat.le_of_ble_eq_true rfl) (Nat.le_of_ble_eq_true rfl) ?_
  refine va_putF (D := D) (ci := 4) (v := .ref q7) (ty := .array .int) (C := RX5) (T := TX5) (N := 13) hx hb hts xin_X5 tyX5 tyX5_ok nmX5 hown hK hP hD hS 0 rfl rfl 8 (by decide) (hts (.fieldLink RX5 32 "LeverCurtain$Machines" "kinds" "[I") (lw_gm 289 (by decide +kernel) rfl)) (fun _ h9 => h9) rfl hin rfl (by decide +kernel) rfl rfl (Nat.le_of_ble_eq_true rfl) dX5_init_57 (fun H locs hP hD hS => ?_)
  have hP : va_P D vwCl [(a, .inr (4, [.null, .int 0, .ref q1, .ref q2, .ref q3, .ref q4, .ref q5, .ref q6, .ref q7, .null, .null, .null, .null])), (q1, .inl (cA 0, 30, .inl (fun _ => 0))), (q2, .inl (cA 0, 6, .inl (fun _ => 0))), (q3, .inl (cA 0, 6, .inl (fun _ => 0))), (q4, .inl (cA 0, 6, .inl (fun _ => 0))), (q5, .inl (cA 0, 96, .inl (fun _ => 0))), (q6, .inl (cA 0, 6, .inl (fun _ => 0))), (q7, .inl (cA 0, 48, .inl (fun _ => 0)))] H := hP
  have hD : va_D A [(a, .inr (4, [.null, .int 0, .ref q1, .ref q2, .ref q3, .ref q4, .ref q5, .ref q6, .ref q7, .null, .null, .null, .null])), (q1, .inl (cA 0, 30, .inl (fun _ => 0))), (q2, .inl (cA 0, 6, .inl (fun _ => 0))), (q3, .inl (cA 0, 6, .inl (fun _ => 0))), (q4, .inl (cA 0, 6, .inl (fun _ => 0))), (q5, .inl (cA 0, 96, .inl (fun _ => 0))), (q6, .inl (cA 0, 6, .inl (fun _ => 0))), (q7, .inl (cA 0, 48, .inl (fun _ => 0)))] := hD
  refine lv_aload_n hx hb dX5_init_60 rfl (lv_at hl 0 rfl) ?_
  refine lv_bipush (v := (48 : Int32)) hx hb dX5_init_61 (by decide) ?_
  refine xnewa (t := 0) (atype := .int) (ty := .int) (N' := 48) rfl rfl xRA_int hx hb (hts _ cmem_ai) hK hP hD hS hA (fun _ => rfl) (by decide) (by decide) (by decide) (Nat.le_of_ble_eq_true rfl) (Nat.le_of_ble_eq_true rfl) dX5_init_63 (fun q8 H hP hD hS => ?_)
  have hP : va_P D vwCl [(a, .inr (4, [.null, .int 0, .ref q1, .ref q2, .ref q3, .ref q4, .ref q5, .ref q6, .ref q7, .null, .null, .null, .null])), (q1, .inl (cA 0, 30, .inl (fun _ => 0))), (q2, .inl (cA 0, 6, .inl (fun _ => 0))), (q3, .inl (cA 0, 6, .inl (fun _ => 0))), (q4, .inl (cA 0, 6, .inl (fun _ => 0))), (q5, .inl (cA 0, 96, .inl (fun _ => 0))), (q6, .inl (cA 0, 6, .inl (fun _ => 0))), (q7, .inl (cA 0, 48, .inl (fun _ => 0))), (q8, .inl (cA 0, 48, .inl (fun _ => 0)))] H := hP
  have hD : va_D A [(a, .inr (4, [.null, .int 0, .ref q1, .ref q2, .ref q3, .ref q4, .ref q5, .ref q6, .ref q7, .null, .null, .null, .null])), (q1, .inl (cA 0, 30, .inl (fun _ => 0))), (q2, .inl (cA 0, 6, .inl (fun _ => 0))), (q3, .inl (cA 0, 6, .inl (fun _ => 0))), (q4, .inl (cA 0, 6, .inl (fun _ => 0))), (q5, .inl (cA 0, 96, .inl (fun _ => 0))), (q6, .inl (cA 0, 6, .inl (fun _ => 0))), (q7, .inl (cA 0, 48, .inl (fun _ => 0))), (q8, .inl (cA 0, 48, .inl (fun _ => 0)))] := hD
  refine W.widen (k := 8) (n := 246) (Nat.le_of_ble_eq_true rfl) (Nat.le_of_ble_eq_true rfl) ?_
  refine va_putF (D := D) (ci := 4) (v := .ref q8) (ty := .array .int) (C := RX5) (T := TX5) (N := 13) hx hb hts xin_X5 tyX5 tyX5_ok nmX5 hown hK hP hD hS 0 rfl rfl 9 (by decide) (hts (.fieldLink RX5 35 "LeverCurtain$Machines" "firsts" "[I") (lw_gm 290 (by decide +kernel) rfl)) (fun _ h9 => h9) rfl hin rfl (by decide +kernel) rfl rfl (Nat.le_of_ble_eq_true rfl) dX5_init_65 (fun H locs hP hD hS => ?_)
  have hP : va_P D vwCl [(a, .inr (4, [.null, .int 0, .ref q1, .ref q2, .ref q3, .ref q4, .ref q5, .ref q6, .ref q7, .ref q8, .null, .null, .null])), (q1, .inl (cA 0, 30, .inl (fun _ => 0))), (q2, .inl (cA 0, 6, .inl (fun _ => 0))), (q3, .inl (cA 0, 6, .inl (fun _ => 0))), (q4, .inl (cA 0, 6, .inl (fun _ => 0))), (q5, .inl (cA 0, 96, .inl (fun _ => 0))), (q6, .inl (cA 0, 6, .inl (fun _ => 0))), (q7, .inl (cA 0, 48, .inl (fun _ => 0))), (q8, .inl (cA 0, 48, .inl (fun _ => 0)))] H := hP
  have hD : va_D A [(a, .inr (4, [.null, .int 0, .ref q1, .ref q2, .ref q3, .ref q4, .ref q5, .ref q6, .ref q7, .ref q8, .null, .null, .null])), (q1, .inl (cA 0, 30, .inl (fun _ => 0))), (q2, .inl (cA 0, 6, .inl (fun _ => 0))), (q3, .inl (cA 0, 6, .inl (fun _ => 0))), (q4, .inl (cA 0, 6, .inl (fun _ => 0))), (q5, .inl (cA 0, 96, .inl (fun _ => 0))), (q6, .inl (cA 0, 6, .inl (fun _ => 0))), (q7, .inl (cA 0, 48, .inl (fun _ => 0))), (q8, .inl (cA 0, 48, .inl (fun _ => 0)))] := hD
  refine lv_aload_n hx hb dX5_init_68 rfl (lv_at hl 0 rfl) ?_
  refine lv_bipush (v := (48 : Int32)) hx hb dX5_init_69 (by decide) ?_
  refine xnewa (t := 0) (atype := .int) (ty := .int) (N' := 48) rfl rfl xRA_int hx hb (hts _ cmem_ai) hK hP hD hS hA (fun _ => rfl) (by decide) (by decide) (by decide) (Nat.le_of_ble_eq_true rfl) (Nat.le_of_ble_eq_true rfl) dX5_init_71 (fun q9 H hP hD hS => ?_)
  have hP : va_P D vwCl [(a, .inr (4, [.null, .int 0, .ref q1, .ref q2, .ref q3, .ref q4, .ref q5, .ref q6, .ref q7, .ref q8, .null, .null, .null])), (q1, .inl (cA 0, 30, .inl (fun _ => 0))), (q2, .inl (cA 0, 6, .inl (fun _ => 0))), (q3, .inl (cA 0, 6, .inl (fun _ => 0))), (q4, .inl (cA 0, 6, .inl (fun _ => 0))), (q5, .inl (cA 0, 96, .inl (fun _ => 0))), (q6, .inl (cA 0, 6, .inl (fun _ => 0))), (q7, .inl (cA 0, 48, .inl (fun _ => 0))), (q8, .inl (cA 0, 48, .inl (fun _ => 0))), (q9, .inl (cA 0, 48, .inl (fun _ => 0)))] H := hP
  have hD : va_D A [(a, .inr (4, [.null, .int 0, .ref q1, .ref q2, .ref q3, .ref q4, .ref q5, .ref q6, .ref q7, .ref q8, .null, .null, .null])), (q1, .inl (cA 0, 30, .inl (fun _ => 0))), (q2, .inl (cA 0, 6, .inl (fun _ => 0))), (q3, .inl (cA 0, 6, .inl (fun _ => 0))), (q4, .inl (cA 0, 6, .inl (fun _ => 0))), (q5, .inl (cA 0, 96, .inl (fun _ => 0))), (q6, .inl (cA 0, 6, .inl (fun _ => 0))), (q7, .inl (cA 0, 48, .inl (fun _ => 0))), (q8, .inl (cA 0, 48, .inl (fun _ => 0))), (q9, .inl (cA 0, 48, .inl (fun _ => 0)))] := hD
  refine W.widen (k := 9) (n := 294) (Nat.le_of_ble_eq_true rfl) (Nat.le_of_ble_eq_true rfl) ?_
  refine va_putF (D := D) (ci := 4) (v := .ref q9) (ty := .array .int) (C := RX5) (T := TX5) (N := 13) hx hb hts xin_X5 tyX5 tyX5_ok nmX5 hown hK hP hD hS 0 rfl rfl 10 (by decide) (hts (.fieldLink RX5 38 "LeverCurtain$Machines" "seconds" "[I") (lw_gm 291 (by decide +kernel) rfl)) (fun _ h9 => h9) rfl hin rfl (by decide +kernel) rfl rfl (Nat.le_of_ble_eq_true rfl) dX5_init_73 (fun H locs hP hD hS => ?_)
  have hP : va_P D vwCl [(a, .inr (4, [.null, .int 0, .ref q1, .ref q2, .ref q3, .ref q4, .ref q5, .ref q6, .ref q7, .ref q8, .ref q9, .null, .null])), (q1, .inl (cA 0, 30, .inl (fun _ => 0))), (q2, .inl (cA 0, 6, .inl (fun _ => 0))), (q3, .inl (cA 0, 6, .inl (fun _ => 0))), (q4, .inl (cA 0, 6, .inl (fun _ => 0))), (q5, .inl (cA 0, 96, .inl (fun _ => 0))), (q6, .inl (cA 0, 6, .inl (fun _ => 0))), (q7, .inl (cA 0, 48, .inl (fun _ => 0))), (q8, .inl (cA 0, 48, .inl (fun _ => 0))), (q9, .inl (cA 0, 48, .inl (fun _ => 0)))] H := hP
  have hD : va_D A [(a, .inr (4, [.null, .int 0, .ref q1, .ref q2, .ref q3, .ref q4, .ref q5, .ref q6, .ref q7, .ref q8, .ref q9, .null, .null])), (q1, .inl (cA 0, 30, .inl (fun _ => 0))), (q2, .inl (cA 0, 6, .inl (fun _ => 0))), (q3, .inl (cA 0, 6, .inl (fun _ => 0))), (q4, .inl (cA 0, 6, .inl (fun _ => 0))), (q5, .inl (cA 0, 96, .inl (fun _ => 0))), (q6, .inl (cA 0, 6, .inl (fun _ => 0))), (q7, .inl (cA 0, 48, .inl (fun _ => 0))), (q8, .inl (cA 0, 48, .inl (fun _ => 0))), (q9, .inl (cA 0, 48, .inl (fun _ => 0)))] := hD
  refine lv_aload_n hx hb dX5_init_76 rfl (lv_at hl 0 rfl) ?_
  refine lv_bipush (v := (96 : Int32)) hx hb dX5_init_77 (by decide) ?_
  refine xnewa (t := 0) (atype := .int) (ty := .int) (N' := 96) rfl rfl xRA_int hx hb (hts _ cmem_ai) hK hP hD hS hA (fun _ => rfl) (by decide) (by decide) (by decide) (Nat.le_of_ble_eq_true rfl) (Nat.le_of_ble_eq_true rfl) dX5_init_79 (fun q10 H hP hD hS => ?_)
  have hP : va_P D vwCl [(a, .inr (4, [.null, .int 0, .ref q1, .ref q2, .ref q3, .ref q4, .ref q5, .ref q6, .ref q7, .ref q8, .ref q9, .null, .null])), (q1, .inl (cA 0, 30, .inl (fun _ => 0))), (q2, .inl (cA 0, 6, .inl (fun _ => 0))), (q3, .inl (cA 0, 6, .inl (fun _ => 0))), (q4, .inl (cA 0, 6, .inl (fun _ => 0))), (q5, .inl (cA 0, 96, .inl (fun _ => 0))), (q6, .inl (cA 0, 6, .inl (fun _ => 0))), (q7, .inl (cA 0, 48, .inl (fun _ => 0))), (q8, .inl (cA 0, 48, .inl (fun _ => 0))), (q9, .inl (cA 0, 48, .inl (fun _ => 0))), (q10, .inl (cA 0, 96, .inl (fun _ => 0)))] H := hP
  have hD : va_D A [(a, .inr (4, [.null, .int 0, .ref q1, .ref q2, .ref q3, .ref q4, .ref q5, .ref q6, .ref q7, .ref q8, .ref q9, .null, .null])), (q1, .inl (cA 0, 30, .inl (fun _ => 0))), (q2, .inl (cA 0, 6, .inl (fun _ => 0))), (q3, .inl (cA 0, 6, .inl (fun _ => 0))), (q4, .inl (cA 0, 6, .inl (fun _ => 0))), (q5, .inl (cA 0, 96, .inl (fun _ => 0))), (q6, .inl (cA 0, 6, .inl (fun _ => 0))), (q7, .inl (cA 0, 48, .inl (fun _ => 0))), (q8, .inl (cA 0, 48, .inl (fun _ => 0))), (q9, .inl (cA 0, 48, .inl (fun _ => 0))), (q10, .inl (cA 0, 96, .inl (fun _ => 0)))] := hD
  refine W.widen (k := 10) (n := 390) (Nat.le_of_ble_eq_true rfl) (Nat.le_of_ble_eq_true rfl) ?_
  refine va_putF (D := D) (ci := 4) (v := .ref q10) (ty := .array .int) (C := RX5) (T := TX5) (N := 13) hx hb hts xin_X5 tyX5 tyX5_ok nmX5 hown hK hP hD hS 0 rfl rfl 11 (by decide) (hts (.fieldLink RX5 41 "LeverCurtain$Machines" "recounts" "[I") (lw_gm 292 (by decide +kernel) rfl)) (fun _ h9 => h9) rfl hin rfl (by decide +kernel) rfl rfl (Nat.le_of_ble_eq_true rfl) dX5_init_81 (fun H locs hP hD hS => ?_)
  have hP : va_P D vwCl [(a, .inr (4, [.null, .int 0, .ref q1, .ref q2, .ref q3, .ref q4, .ref q5, .ref q6, .ref q7, .ref q8, .ref q9, .ref q10, .null])), (q1, .inl (cA 0, 30, .inl (fun _ => 0))), (q2, .inl (cA 0, 6, .inl (fun _ => 0))), (q3, .inl (cA 0, 6, .inl (fun _ => 0))), (q4, .inl (cA 0, 6, .inl (fun _ => 0))), (q5, .inl (cA 0, 96, .inl (fun _ => 0))), (q6, .inl (cA 0, 6, .inl (fun _ => 0))), (q7, .inl (cA 0, 48, .inl (fun _ => 0))), (q8, .inl (cA 0, 48, .inl (fun _ => 0))), (q9, .inl (cA 0, 48, .inl (fun _ => 0))), (q10, .inl (cA 0, 96, .inl (fun _ => 0)))] H := hP
  have hD : va_D A [(a, .inr (4, [.null, .int 0, .ref q1, .ref q2, .ref q3, .ref q4, .ref q5, .ref q6, .ref q7, .ref q8, .ref q9, .ref q10, .null])), (q1, .inl (cA 0, 30, .inl (fun _ => 0))), (q2, .inl (cA 0, 6, .inl (fun _ => 0))), (q3, .inl (cA 0, 6, .inl (fun _ => 0))), (q4, .inl (cA 0, 6, .inl (fun _ => 0))), (q5, .inl (cA 0, 96, .inl (fun _ => 0))), (q6, .inl (cA 0, 6, .inl (fun _ => 0))), (q7, .inl (cA 0, 48, .inl (fun _ => 0))), (q8, .inl (cA 0, 48, .inl (fun _ => 0))), (q9, .inl (cA 0, 48, .inl (fun _ => 0))), (q10, .inl (cA 0, 96, .inl (fun _ => 0)))] := hD
  refine lv_aload_n hx hb dX5_init_84 rfl (lv_at hl 0 rfl) ?_
  refine lv_sipush (v := (768 : Int32)) hx hb dX5_init_85 (by decide) ?_
  refine xnewa (t := 0) (atype := .int) (ty := .int) (N' := 768) rfl rfl xRA_int hx hb (hts _ cmem_ai) hK hP hD hS hA (fun _ => rfl) (by decide) (by decide) (by decide) (Nat.le_of_ble_eq_true rfl) (Nat.le_of_ble_eq_true rfl) dX5_init_88 (fun q11 H hP hD hS => ?_)
  have hP : va_P D vwCl [(a, .inr (4, [.null, .int 0, .ref q1, .ref q2, .ref q3, .ref q4, .ref q5, .ref q6, .ref q7, .ref q8, .ref q9, .ref q10, .null])), (q1, .inl (cA 0, 30, .inl (fun _ => 0))), (q2, .inl (cA 0, 6, .inl (fun _ => 0))), (q3, .inl (cA 0, 6, .inl (fun _ => 0))), (q4, .inl (cA 0, 6, .inl (fun _ => 0))), (q5, .inl (cA 0, 96, .inl (fun _ => 0))), (q6, .inl (cA 0, 6, .inl (fun _ => 0))), (q7, .inl (cA 0, 48, .inl (fun _ => 0))), (q8, .inl (cA 0, 48, .inl (fun _ => 0))), (q9, .inl (cA 0, 48, .inl (fun _ => 0))), (q10, .inl (cA 0, 96, .inl (fun _ => 0))), (q11, .inl (cA 0, 768, .inl (fun _ => 0)))] H := hP
  have hD : va_D A [(a, .inr (4, [.null, .int 0, .ref q1, .ref q2, .ref q3, .ref q4, .ref q5, .ref q6, .ref q7, .ref q8, .ref q9, .ref q10, .null])), (q1, .inl (cA 0, 30, .inl (fun _ => 0))), (q2, .inl (cA 0, 6, .inl (fun _ => 0))), (q3, .inl (cA 0, 6, .inl (fun _ => 0))), (q4, .inl (cA 0, 6, .inl (fun _ => 0))), (q5, .inl (cA 0, 96, .inl (fun _ => 0))), (q6, .inl (cA 0, 6, .inl (fun _ => 0))), (q7, .inl (cA 0, 48, .inl (fun _ => 0))), (q8, .inl (cA 0, 48, .inl (fun _ => 0))), (q9, .inl (cA 0, 48, .inl (fun _ => 0))), (q10, .inl (cA 0, 96, .inl (fun _ => 0))), (q11, .inl (cA 0, 768, .inl (fun _ => 0)))] := hD
  refine W.widen (k := 11) (n := 1158) (Nat.le_of_ble_eq_true rfl) (Nat.le_of_ble_eq_true rfl) ?_
  refine va_putF (D := D) (ci := 4) (v := .ref q11) (ty := .array .int) (C := RX5) (T := TX5) (N := 13) hx hb hts xin_X5 tyX5 tyX5_ok nmX5 hown hK hP hD hS 0 rfl rfl 12 (by decide) (hts (.fieldLink RX5 44 "LeverCurtain$Machines" "recounted" "[I") (lw_gm 293 (by decide +kernel) rfl)) (fun _ h9 => h9) rfl hin rfl (by decide +kernel) rfl rfl (Nat.le_of_ble_eq_true rfl) dX5_init_90 (fun H locs hP hD hS => ?_)
  have hP : va_P D vwCl [(a, .inr (4, [.null, .int 0, .ref q1, .ref q2, .ref q3, .ref q4, .ref q5, .ref q6, .ref q7, .ref q8, .ref q9, .ref q10, .ref q11])), (q1, .inl (cA 0, 30, .inl (fun _ => 0))), (q2, .inl (cA 0, 6, .inl (fun _ => 0))), (q3, .inl (cA 0, 6, .inl (fun _ => 0))), (q4, .inl (cA 0, 6, .inl (fun _ => 0))), (q5, .inl (cA 0, 96, .inl (fun _ => 0))), (q6, .inl (cA 0, 6, .inl (fun _ => 0))), (q7, .inl (cA 0, 48, .inl (fun _ => 0))), (q8, .inl (cA 0, 48, .inl (fun _ => 0))), (q9, .inl (cA 0, 48, .inl (fun _ => 0))), (q10, .inl (cA 0, 96, .inl (fun _ => 0))), (q11, .inl (cA 0, 768, .inl (fun _ => 0)))] H := hP
  have hD : va_D A [(a, .inr (4, [.null, .int 0, .ref q1, .ref q2, .ref q3, .ref q4, .ref q5, .ref q6, .ref q7, .ref q8, .ref q9, .ref q10, .ref q11])), (q1, .inl (cA 0, 30, .inl (fun _ => 0))), (q2, .inl (cA 0, 6, .inl (fun _ => 0))), (q3, .inl (cA 0, 6, .inl (fun _ => 0))), (q4, .inl (cA 0, 6, .inl (fun _ => 0))), (q5, .inl (cA 0, 96, .inl (fun _ => 0))), (q6, .inl (cA 0, 6, .inl (fun _ => 0))), (q7, .inl (cA 0, 48, .inl (fun _ => 0))), (q8, .inl (cA 0, 48, .inl (fun _ => 0))), (q9, .inl (cA 0, 48, .inl (fun _ => 0))), (q10, .inl (cA 0, 96, .inl (fun _ => 0))), (q11, .inl (cA 0, 768, .inl (fun _ => 0)))] := hD
  refine lv_aload_n hx hb dX5_init_93 rfl (lv_at hl 0 rfl) ?_
  refine lv_aload_n hx hb dX5_init_94 rfl (lv_at hl 1 rfl) ?_
  refine va_putF (D := D) (ci := 4) (v := .ref p1) (ty := .object "LeverCurtain$Booth") (C := RX5) (T := TX5) (N := 13) hx hb hts xin_X5 tyX5 tyX5_ok nmX5 hown hK hP hD hS 0 rfl rfl 0 (by decide) (hts (.fieldLink RX5 47 "LeverCurtain$Machines" "booth" "LLeverCurtain$Booth;") (lw_gm 272 (by decide +kernel) rfl)) (fun _ h9 => h9) rfl hin rfl (by decide +kernel) rfl rfl (Nat.le_of_ble_eq_true rfl) dX5_init_95 (fun H locs hP hD hS => ?_)
  have hP : va_P D vwCl [(a, .inr (4, [.ref p1, .int 0, .ref q1, .ref q2, .ref q3, .ref q4, .ref q5, .ref q6, .ref q7, .ref q8, .ref q9, .ref q10, .ref q11])), (q1, .inl (cA 0, 30, .inl (fun _ => 0))), (q2, .inl (cA 0, 6, .inl (fun _ => 0))), (q3, .inl (cA 0, 6, .inl (fun _ => 0))), (q4, .inl (cA 0, 6, .inl (fun _ => 0))), (q5, .inl (cA 0, 96, .inl (fun _ => 0))), (q6, .inl (cA 0, 6, .inl (fun _ => 0))), (q7, .inl (cA 0, 48, .inl (fun _ => 0))), (q8, .inl (cA 0, 48, .inl (fun _ => 0))), (q9, .inl (cA 0, 48, .inl (fun _ => 0))), (q10, .inl (cA 0, 96, .inl (fun _ => 0))), (q11, .inl (cA 0, 768, .inl (fun _ => 0)))] H := hP
  have hD : va_D A [(a, .inr (4, [.ref p1, .int 0, .ref q1, .ref q2, .ref q3, .ref q4, .ref q5, .ref q6, .ref q7, .ref q8, .ref q9, .ref q10, .ref q11])), (q1, .inl (cA 0, 30, .inl (fun _ => 0))), (q2, .inl (cA 0, 6, .inl (fun _ => 0))), (q3, .inl (cA 0, 6, .inl (fun _ => 0))), (q4, .inl (cA 0, 6, .inl (fun _ => 0))), (q5, .inl (cA 0, 96, .inl (fun _ => 0))), (q6, .inl (cA 0, 6, .inl (fun _ => 0))), (q7, .inl (cA 0, 48, .inl (fun _ => 0))), (q8, .inl (cA 0, 48, .inl (fun _ => 0))), (q9, .inl (cA 0, 48, .inl (fun _ => 0))), (q10, .inl (cA 0, 96, .inl (fun _ => 0))), (q11, .inl (cA 0, 768, .inl (fun _ => 0)))] := hD
  have hP9 := hP.sub (ws' := [(a, .inr (4, [.ref p1, .int 0, .ref q1, .ref q2, .ref q3, .ref q4, .ref q5, .ref q6, .ref q7, .ref q8, .ref q9, .ref q10, .ref q11])), (q1, .inl (cA 0, 30, .inl (fun _ => 0))), (q2, .inl (cA 0, 6, .inl (fun _ => 0))), (q3, .inl (cA 0, 6, .inl (fun _ => 0))), (q4, .inl (cA 0, 6, .inl (fun _ => 0))), (q5, .inl (cA 0, 96, .inl (fun _ => 0))), (q6, .inl (cA 0, 6, .inl (fun _ => 0))), (q7, .inl (cA 0, 48, .inl (fun _ => 0))), (q8, .inl (cA 0, 48, .inl (fun _ => 0))), (q9, .inl (cA 0, 48, .inl (fun _ => 0))), (q10, .inl (cA 0, 96, .inl (fun _ => 0))), (q11, .inl (cA 0, 768, .inl (fun _ => 0)))]) [0, 1, 2, 3, 4, 5, 6, 7, 8, 9, 10, 11] rfl
  have hD9 := hD.sub (ws' := [(a, .inr (4, [.ref p1, .int 0, .ref q1, .ref q2, .ref q3, .ref q4, .ref q5, .ref q6, .ref q7, .ref q8, .ref q9, .ref q10, .ref q11])), (q1, .inl (cA 0, 30, .inl (fun _ => 0))), (q2, .inl (cA 0, 6, .inl (fun _ => 0))), (q3, .inl (cA 0, 6, .inl (fun _ => 0))), (q4, .inl (cA 0, 6, .inl (fun _ => 0))), (q5, .inl (cA 0, 96, .inl (fun _ => 0))), (q6, .inl (cA 0, 6, .inl (fun _ => 0))), (q7, .inl (cA 0, 48, .inl (fun _ => 0))), (q8, .inl (cA 0, 48, .inl (fun _ => 0))), (q9, .inl (cA 0, 48, .inl (fun _ => 0))), (q10, .inl (cA 0, 96, .inl (fun _ => 0))), (q11, .inl (cA 0, 768, .inl (fun _ => 0)))]) [0, 1, 2, 3, 4, 5, 6, 7, 8, 9, 10, 11] (by decide) rfl
  exact W.vret hx hb hr (fun t ht hW => ⟨⟨fun k => ([q1, q2, q3, q4, q5, q6, q7, q8, q9, q10, q11] : List Nat).getD k 0, rfl, trivial, by rw [ht]; exact hP9, va_K.moved hW.alike hK, hD9⟩, hS.F ht⟩) hS.2.2 dX5_init_98
set_option maxHeartbeats 8000000 in
set_option maxRecDepth 100000 in
theorem c_X2_init (l : Launch) (D : va_G) (cA : Nat → ClassId) (sa : Nat → Nat) (a sz : Nat) (p1 : Nat) (p2 : Nat) : Met l yX2_init (xws yX2_init cX2_init 3 none) ({ frames := 8, cells := 6, slots := 96, locals := 512 }) (va_Pc [.ref a, .ref p1, .ref p2] (fun U => U.heap.size = sz ∧ va_P D vwCl [(a, .inr (1, [.null, .null, .null, .null, .null, .null, .null, .null, .int 0, .int 0]))] U.heap ∧ va_K D vwCl (xTy cA) U ∧ va_D (fun _ => True) [(a, .inr (1, [.null, .null, .null, .null, .null, .null, .null, .null, .int 0, .int 0]))] ∧ yZ (va_A [(a, .inr (1, [.null, .null, .null, .null, .null, .null, .null, .null, .int 0, .int 0]))] sz) sa U)) (va_Qv (fun _ : Nat → Nat => True) (fun u t => va_P D vwCl [(a, .inr (1, [.ref p1, .ref p2, .ref (u 0), .ref (u 1), .ref (u 2), .ref (u 3), .ref (u 4), .ref (u 5), .int 0, .int 0])), ((u 0), .inl (cA 0, 16, .inl (fun _ => 0))), ((u 1), .inl (cA 0, 16, .inl (fun _ => 0))), ((u 2), .inl (cA 0, 16, .inl (fun _ => 0))), ((u 3), .inl (cA 0, 16, .inl (fun _ => 0))), ((u 4), .inl (cA 0, 16, .inl (fun _ => 0))), ((u 5), .inl (cA 0, 16, .inl (fun _ => 0)))] t.heap ∧ va_K D vwCl (xTy cA) t ∧ va_D (va_A [(a, .inr (1, [.null, .null, .null, .null, .null, .null, .null, .null, .int 0, .int 0]))] sz) [(a, .inr (1, [.ref p1, .ref p2, .ref (u 0), .ref (u 1), .ref (u 2), .ref (u 3), .ref (u 4), .ref (u 5), .int 0, .int 0])), ((u 0), .inl (cA 0, 16, .inl (fun _ => 0))), ((u 1), .inl (cA 0, 16, .inl (fun _ => 0))), ((u 2), .inl (cA 0, 16, .inl (fun _ => 0))), ((u 3), .inl (cA 0, 16, .inl (fun _ => 0))), ((u 4), .inl (cA 0, 16, .inl (fun _ => 0))), ((u 5), .inl (cA 0, 16, .inl (fun _ => 0)))]) (va_A [(a, .inr (1, [.null, .null, .null, .null, .null, .null, .null, .null, .int 0, .int 0]))] sz)) 6 96 (va_A [(a, .inr (1, [.null, .null, .null, .null, .null, .null, .null, .null, .int 0, .int 0]))] sz) := by
  refine Met.ofW (cc := cX2_init) (maxL := 3) (ret := none) (by decide +kernel) rfl ?_
  intro p e s m args below meth c s₁ B hml hv
  obtain ⟨rfl, hsz, hP, hK, hD0, hZ⟩ := hv
  have hx := B.exec
  have hb := B.bytes
  have hr := B.returns
  have hts0 := atoms_spec (ws := xws yX2_init cX2_init 3 none) B.pre
  have hts : ∀ w ∈ lw_g, w.before _ s = true := fun w hw => hts0 w (List.mem_cons_of_mem _ hw)
  have hown : s.vm.findClass RX2 = some m.cls := findClass_of_methodNamed B.named
  have hlocks := B.notSynchronized
  have hin : meth.name = "<init>" := (name_of_methodNamed B.named B.method).1
  subst hsz
  have hD := hD0.self (sz := s.heap.size)
  generalize hAe : va_A [(a, .inr (1, [.null, .null, .null, .null, .null, .null, .null, .null, .int 0, .int 0]))] s.heap.size = A at hD hZ ⊢
  have hA : ∀ q : Nat, s.heap.size ≤ q → A q := fun q h => by rw [← hAe]; exact Or.inr h
  have hS : va_S A s.heap s.heap [] := va_S.rf
  have hl := lv_entry ([.ref a, .ref p1, .ref p2]) (n := 3) (Nat.le_of_ble_eq_true rfl)
  rw [lg_entry_eq]
  generalize (lg_sl ([.ref a, .ref p1, .ref p2]) ++ List.replicate (3 - (lg_sl ([.ref a, .ref p1, .ref p2])).length) Slot.unset).toArray = ls at hl ⊢
  have hl : lv_has ls 3 [(0, .ref a), (1, .ref p1), (2, .ref p2)] := hl
  refine lv_aload_n hx hb dX2_init_0 rfl (lv_at hl 0 rfl) ?_
  refine W.objInit hx hb hown (hts (.methodLink RX2 3 objectInit) (lw_gm 326 (by decide +kernel) rfl)) (hts _ cmem_oi) (hts _ cmem_oc) rfl (by rw [hml]; exact hl.1) rfl dX2_init_1 (Nat.le_of_ble_eq_true rfl) (Nat.le_of_ble_eq_true rfl) ?_
  refine W.eq (g2 := F0 m 4 ls []) rfl ?_
  refine lv_aload_n hx hb dX2_init_4 rfl (lv_at hl 0 rfl) ?_
  refine lv_bipush (v := (16 : Int32)) hx hb dX2_init_5 (by decide) ?_
  refine xnewa (t := 0) (atype := .int) (ty := .int) (N' := 16) rfl rfl xRA_int hx hb (hts _ cmem_ai) hK hP hD hS hA (fun _ => rfl) (by decide) (by decide) (by decide) (Nat.le_of_ble_eq_true rfl) (Nat.le_of_ble_eq_true rfl) dX2_init_7 (fun q1 H hP hD hS => ?_)
  have hP : va_P D vwCl [(a, .inr (1, [.null, .null, .null, .null, .null, .null, .null, .null, .int 0, .int 0])), (q1, .inl (cA 0, 16, .inl (fun _ => 0)))] H := hP
  have hD : va_D A [(a, .inr (1, [.null, .null, .null, .null, .null, .null, .null, .null, .int 0, .int 0])), (q1, .inl (cA 0, 16, .inl (fun _ => 0)))] := hD
  refine W.widen (k := 1) (n := 16) (Nat.le_of_ble_eq_true rfl) (Nat.le_of_ble_eq_true rfl) ?_
  refine va_putF (D := D) (ci := 1) (v := .ref q1) (ty := .array .int) (C := RX2) (T := TX2) (N := 10) hx hb hts xin_X2 tyX2 tyX2_ok nmX2 hown hK hP hD hS 0 rfl rfl 2 (by decide) (hts (.fieldLink RX2 11 "LeverCurtain$Fit" "counters" "[I") (lw_gm 329 (by decide +kernel) rfl)) (fun _ h9 => h9) rfl hin rfl (by decide +kernel) rfl rfl (Nat.le_of_ble_eq_true rfl) dX2_init_9 (fun H locs hP hD hS => ?_)
  have hP : va_P D vwCl [(a, .inr (1, [.null, .null, .ref q1, .null, .null, .null, .null, .null, .int 0, .int 0])), (q1, .inl (cA 0, 16, .inl (fun _ => 0)))] H := hP
  have hD : va_D A [(a, .inr (1, [.null, .null, .ref q1, .null, .null, .null, .null, .null, .int 0, .int 0])), (q1, .inl (cA 0, 16, .inl (fun _ => 0)))] := hD
  refine lv_aload_n hx hb dX2_init_12 rfl (lv_at hl 0 rfl) ?_
  refine lv_bipush (v := (16 : Int32)) hx hb dX2_init_13 (by decide) ?_
  refine xnewa (t := 0) (atype := .int) (ty := .int) (N' := 16) rfl rfl xRA_int hx hb (hts _ cmem_ai) hK hP hD hS hA (fun _ => rfl) (by decide) (by decide) (by decide) (Nat.le_of_ble_eq_true rfl) (Nat.le_of_ble_eq_true rfl) dX2_init_15 (fun q2 H hP hD hS => ?_)
  have hP : va_P D vwCl [(a, .inr (1, [.null, .null, .ref q1, .null, .null, .null, .null, .null, .int 0, .int 0])), (q1, .inl (cA 0, 16, .inl (fun _ => 0))), (q2, .inl (cA 0, 16, .inl (fun _ => 0)))] H := hP
  have hD : va_D A [(a, .inr (1, [.null, .null, .ref q1, .null, .null, .null, .null, .null, .int 0, .int 0])), (q1, .inl (cA 0, 16, .inl (fun _ => 0))), (q2, .inl (cA 0, 16, .inl (fun _ => 0)))] := hD
  refine W.widen (k := 2) (n := 32) (Nat.le_of_ble_eq_true rfl) (Nat.le_of_ble_eq_true rfl) ?_
  refine va_putF (D := D) (ci := 1) (v := .ref q2) (ty := .array .int) (C := RX2) (T := TX2) (N := 10) hx hb hts xin_X2 tyX2 tyX2_ok nmX2 hown hK hP hD hS 0 rfl rfl 3 (by decide) (hts (.fieldLink RX2 17 "LeverCurtain$Fit" "began" "[I") (lw_gm 330 (by decide +kernel) rfl)) (fun _ h9 => h9) rfl hin rfl (by decide +kernel) rfl rfl (Nat.le_of_ble_eq_true rfl) dX2_init_17 (fun H locs hP hD hS => ?_)
  have hP : va_P D vwCl [(a, .inr (1, [.null, .null, .ref q1, .ref q2, .null, .null, .null, .null, .int 0, .int 0])), (q1, .inl (cA 0, 16, .inl (fun _ => 0))), (q2, .inl (cA 0, 16, .inl (fun _ => 0)))] H := hP
  have hD : va_D A [(a, .inr (1, [.null, .null, .ref q1, .ref q2, .null, .null, .null, .null, .int 0, .int 0])), (q1, .inl (cA 0, 16, .inl (fun _ => 0))), (q2, .inl (cA 0, 16, .inl (fun _ => 0)))] := hD
  refine lv_aload_n hx hb dX2_init_20 rfl (lv_at hl 0 rfl) ?_
  refine lv_bipush (v := (16 : Int32)) hx hb dX2_init_21 (by decide) ?_
  refine xnewa (t := 0) (atype := .int) (ty := .int) (N' := 16) rfl rfl xRA_int hx hb (hts _ cmem_ai) hK hP hD hS hA (fun _ => rfl) (by decide) (by decide) (by decide) (Nat.le_of_ble_eq_true rfl) (Nat.le_of_ble_eq_true rfl) dX2_init_23 (fun q3 H hP hD hS => ?_)
  have hP : va_P D vwCl [(a, .inr (1, [.null, .null, .ref q1, .ref q2, .null, .null, .null, .null, .int 0, .int 0])), (q1, .inl (cA 0, 16, .inl (fun _ => 0))), (q2, .inl (cA 0, 16, .inl (fun _ => 0))), (q3, .inl (cA 0, 16, .inl (fun _ => 0)))] H := hP
  have hD : va_D A [(a, .inr (1, [.null, .null, .ref q1, .ref q2, .null, .null, .null, .null, .int 0, .int 0])), (q1, .inl (cA 0, 16, .inl (fun _ => 0))), (q2, .inl (cA 0, 16, .inl (fun _ => 0))), (q3, .inl (cA 0, 16, .inl (fun _ => 0)))] := hD
  refine W.widen (k := 3) (n := 48) (Nat.le_of_ble_eq_true rfl) (Nat.le_of_ble_eq_true rfl) ?_
  refine va_putF (D := D) (ci := 1) (v := .ref q3) (ty := .array .int) (C := RX2) (T := TX2) (N := 10) hx hb hts xin_X2 tyX2 tyX2_ok nmX2 hown hK hP hD hS 0 rfl rfl 4 (by decide) (hts (.fieldLink RX2 20 "LeverCurtain$Fit" "wheels" "[I") (lw_gm 331 (by decide +kernel) rfl)) (fun _ h9 => h9) rfl hin rfl (by decide +kernel) rfl rfl (Nat.le_of_ble_eq_true rfl) dX2_init_25 (fun H locs hP hD hS => ?_)
  have hP : va_P D vwCl [(a, .inr (1, [.null, .null, .ref q1, .ref q2, .ref q3, .null, .null, .null, .int 0, .int 0])), (q1, .inl (cA 0, 16, .inl (fun _ => 0))), (q2, .inl (cA 0, 16, .inl (fun _ => 0))), (q3, .inl (cA 0, 16, .inl (fun _ => 0)))] H := hP
  have hD : va_D A [(a, .inr (1, [.null, .null, .ref q1, .ref q2, .ref q3, .null, .null, .null, .int 0, .int 0])), (q1, .inl (cA 0, 16, .inl (fun _ => 0))), (q2, .inl (cA 0, 16, .inl (fun _ => 0))), (q3, .inl (cA 0, 16, .inl (fun _ => 0)))] := hD
  refine lv_aload_n hx hb dX2_init_28 rfl (lv_at hl 0 rfl) ?_
  refine lv_bipush (v := (16 : Int32)) hx hb dX2_init_29 (by decide) ?_
  refine xnewa (t := 0) (atype := .int) (ty := .int) (N' := 16) rfl rfl xRA_int hx hb (hts _ cmem_ai) hK hP hD hS hA (fun _ => rfl) (by decide) (by decide) (by decide) (Nat.le_of_ble_eq_true rfl) (Nat.le_of_ble_eq_true rfl) dX2_init_31 (fun q4 H hP hD hS => ?_)
  have hP : va_P D vwCl [(a, .inr (1, [.null, .null, .ref q1, .ref q2, .ref q3, .null, .null, .null, .int 0, .int 0])), (q1, .inl (cA 0, 16, .inl (fun _ => 0))), (q2, .inl (cA 0, 16, .inl (fun _ => 0))), (q3, .inl (cA 0, 16, .inl (fun _ => 0))), (q4, .inl (cA 0, 16, .inl (fun _ => 0)))] H := hP
  have hD : va_D A [(a, .inr (1, [.null, .null, .ref q1, .ref q2, .ref q3, .null, .null, .null, .int 0, .int 0])), (q1, .inl (cA 0, 16, .inl (fun _ => 0))), (q2, .inl (cA 0, 16, .inl (fun _ => 0))), (q3, .inl (cA 0, 16, .inl (fun _ => 0))), (q4, .inl (cA 0, 16, .inl (fun _ => 0)))] := hD
  refine W.widen (k := 4) (n := 64) (Nat.le_of_ble_eq_true rfl) (Nat.le_of_ble_eq_true rfl) ?_
  refine va_putF (D := D) (ci := 1) (v := .ref q4) (ty := .array .int) (C := RX2) (T := TX2) (N := 10) hx hb hts xin_X2 tyX2 tyX2_ok nmX2 hown hK hP hD hS 0 rfl rfl 5 (by decide) (hts (.fieldLink RX2 23 "LeverCurtain$Fit" "steps" "[I") (lw_gm 332 (by decide +kernel) rfl)) (fun _ h9 => h9) rfl hin rfl (by decide +kernel) rfl rfl (Nat.le_of_ble_eq_true rfl) dX2_init_33 (fun H locs hP hD hS => ?_)
  have hP : va_P D vwCl [(a, .inr (1, [.null, .null, .ref q1, .ref q2, .ref q3, .ref q4, .null, .null, .int 0, .int 0])), (q1, .inl (cA 0, 16, .inl (fun _ => 0))), (q2, .inl (cA 0, 16, .inl (fun _ => 0))), (q3, .inl (cA 0, 16, .inl (fun _ => 0))), (q4, .inl (cA 0, 16, .inl (fun _ => 0)))] H := hP
  have hD : va_D A [(a, .inr (1, [.null, .null, .ref q1, .ref q2, .ref q3, .ref q4, .null, .null, .int 0, .int 0])), (q1, .inl (cA 0, 16, .inl (fun _ => 0))), (q2, .inl (cA 0, 16, .inl (fun _ => 0))), (q3, .inl (cA 0, 16, .inl (fun _ => 0))), (q4, .inl (cA 0, 16, .inl (fun _ => 0)))] := hD
  refine lv_aload_n hx hb dX2_init_36 rfl (lv_at hl 0 rfl) ?_
  refine lv_bipush (v := (16 : Int32)) hx hb dX2_init_37 (by decide) ?_
  refine xnewa (t := 0) (atype := .int) (ty := .int) (N' := 16) rfl rfl xRA_int hx hb (hts _ cmem_ai) hK hP hD hS hA (fun _ => rfl) (by decide) (by decide) (by decide) (Nat.le_of_ble_eq_true rfl) (Nat.le_of_ble_eq_true rfl) dX2_init_39 (fun q5 H hP hD hS => ?_)
  have hP : va_P D vwCl [(a, .inr (1, [.null, .null, .ref q1, .ref q2, .ref q3, .ref q4, .null, .null, .int 0, .int 0])), (q1, .inl (cA 0, 16, .inl (fun _ => 0))), (q2, .inl (cA 0, 16, .inl (fun _ => 0))), (q3, .inl (cA 0, 16, .inl (fun _ => 0))), (q4, .inl (cA 0, 16, .inl (fun _ => 0))), (q5, .inl (cA 0, 16, .inl (fun _ => 0)))] H := hP
  have hD : va_D A [(a, .inr (1, [.null, .null, .ref q1, .ref q2, .ref q3, .ref q4, .null, .null, .int 0, .int 0])), (q1, .inl (cA 0, 16, .inl (fun _ => 0))), (q2, .inl (cA 0, 16, .inl (fun _ => 0))), (q3, .inl (cA 0, 16, .inl (fun _ => 0))), (q4, .inl (cA 0, 16, .inl (fun _ => 0))), (q5, .inl (cA 0, 16, .inl (fun _ => 0)))] := hD
  refine W.widen (k := 5) (n := 80) (Nat.le_of_ble_eq_true rfl) (Nat.le_of_ble_eq_true rfl) ?_
  refine va_putF (D := D) (ci := 1) (v := .ref q5) (ty := .array .int) (C := RX2) (T := TX2) (N := 10) hx hb hts xin_X2 tyX2 tyX2_ok nmX2 hown hK hP hD hS 0 rfl rfl 6 (by decide) (hts (.fieldLink RX2 26 "LeverCurtain$Fit" "lows" "[I") (lw_gm 333 (by decide +kernel) rfl)) (fun _ h9 => h9) rfl hin rfl (by decide +kernel) rfl rfl (Nat.le_of_ble_eq_true rfl) dX2_init_41 (fun H locs hP hD hS => ?_)
  have hP : va_P D vwCl [(a, .inr (1, [.null, .null, .ref q1, .ref q2, .ref q3, .ref q4, .ref q5, .null, .int 0, .int 0])), (q1, .inl (cA 0, 16, .inl (fun _ => 0))), (q2, .inl (cA 0, 16, .inl (fun _ => 0))), (q3, .inl (cA 0, 16, .inl (fun _ => 0))), (q4, .inl (cA 0, 16, .inl (fun _ => 0))), (q5, .inl (cA 0, 16, .inl (fun _ => 0)))] H := hP
  have hD : va_D A [(a, .inr (1, [.null, .null, .ref q1, .ref q2, .ref q3, .ref q4, .ref q5, .null, .int 0, .int 0])), (q1, .inl (cA 0, 16, .inl (fun _ => 0))), (q2, .inl (cA 0, 16, .inl (fun _ => 0))), (q3, .inl (cA 0, 16, .inl (fun _ => 0))), (q4, .inl (cA 0, 16, .inl (fun _ => 0))), (q5, .inl (cA 0, 16, .inl (fun _ => 0)))] := hD
  refine lv_aload_n hx hb dX2_init_44 rfl (lv_at hl 0 rfl) ?_
  refine lv_bipush (v := (16 : Int32)) hx hb dX2_init_45 (by decide) ?_
  refine xnewa (t := 0) (atype := .int) (ty := .int) (N' := 16) rfl rfl xRA_int hx hb (hts _ cmem_ai) hK hP hD hS hA (fun _ => rfl) (by decide) (by decide) (by decide) (Nat.le_of_ble_eq_true rfl) (Nat.le_of_ble_eq_true rfl) dX2_init_47 (fun q6 H hP hD hS => ?_)
  have hP : va_P D vwCl [(a, .inr (1, [.null, .null, .ref q1, .ref q2, .ref q3, .ref q4, .ref q5, .null, .int 0, .int 0])), (q1, .inl (cA 0, 16, .inl (fun _ => 0))), (q2, .inl (cA 0, 16, .inl (fun _ => 0))), (q3, .inl (cA 0, 16, .inl (fun _ => 0))), (q4, .inl (cA 0, 16, .inl (fun _ => 0))), (q5, .inl (cA 0, 16, .inl (fun _ => 0))), (q6, .inl (cA 0, 16, .inl (fun _ => 0)))] H := hP
  have hD : va_D A [(a, .inr (1, [.null, .null, .ref q1, .ref q2, .ref q3, .ref q4, .ref q5, .null, .int 0, .int 0])), (q1, .inl (cA 0, 16, .inl (fun _ => 0))), (q2, .inl (cA 0, 16, .inl (fun _ => 0))), (q3, .inl (cA 0, 16, .inl (fun _ => 0))), (q4, .inl (cA 0, 16, .inl (fun _ => 0))), (q5, .inl (cA 0, 16, .inl (fun _ => 0))), (q6, .inl (cA 0, 16, .inl (fun _ => 0)))] := hD
  refine W.widen (k := 6) (n := 96) (Nat.le_of_ble_eq_true rfl) (Nat.le_of_ble_eq_true rfl) ?_
  refine va_putF (D := D) (ci := 1) (v := .ref q6) (ty := .array .int) (C := RX2) (T := TX2) (N := 10) hx hb hts xin_X2 tyX2 tyX2_ok nmX2 hown hK hP hD hS 0 rfl rfl 7 (by decide) (hts (.fieldLink RX2 29 "LeverCurtain$Fit" "highs" "[I") (lw_gm 334 (by decide +kernel) rfl)) (fun _ h9 => h9) rfl hin rfl (by decide +kernel) rfl rfl (Nat.le_of_ble_eq_true rfl) dX2_init_49 (fun H locs hP hD hS => ?_)
  have hP : va_P D vwCl [(a, .inr (1, [.null, .null, .ref q1, .ref q2, .ref q3, .ref q4, .ref q5, .ref q6, .int 0, .int 0])), (q1, .inl (cA 0, 16, .inl (fun _ => 0))), (q2, .inl (cA 0, 16, .inl (fun _ => 0))), (q3, .inl (cA 0, 16, .inl (fun _ => 0))), (q4, .inl (cA 0, 16, .inl (fun _ => 0))), (q5, .inl (cA 0, 16, .inl (fun _ => 0))), (q6, .inl (cA 0, 16, .inl (fun _ => 0)))] H := hP
  have hD : va_D A [(a, .inr (1, [.null, .null, .ref q1, .ref q2, .ref q3, .ref q4, .ref q5, .ref q6, .int 0, .int 0])), (q1, .inl (cA 0, 16, .inl (fun _ => 0))), (q2, .inl (cA 0, 16, .inl (fun _ => 0))), (q3, .inl (cA 0, 16, .inl (fun _ => 0))), (q4, .inl (cA 0, 16, .inl (fun _ => 0))), (q5, .inl (cA 0, 16, .inl (fun _ => 0))), (q6, .inl (cA 0, 16, .inl (fun _ => 0)))] := hD
  refine lv_aload_n hx hb dX2_init_52 rfl (lv_at hl 0 rfl) ?_
  refine lv_aload_n hx hb dX2_init_53 rfl (lv_at hl 1 rfl) ?_
  refine va_putF (D := D) (ci := 1) (v := .ref p1) (ty := .object "LeverCurtain$Booth") (C := RX2) (T := TX2) (N := 10) hx hb hts xin_X2 tyX2 tyX2_ok nmX2 hown hK hP hD hS 0 rfl rfl 0 (by decide) (hts (.fieldLink RX2 32 "LeverCurtain$Fit" "booth" "LLeverCurtain$Booth;") (lw_gm 327 (by decide +kernel) rfl)) (fun _ h9 => h9) rfl hin rfl (by decide +kernel) rfl rfl (Nat.le_of_ble_eq_true rfl) dX2_init_54 (fun H locs hP hD hS => ?_)
  have hP : va_P D vwCl [(a, .inr (1, [.ref p1, .null, .ref q1, .ref q2, .ref q3, .ref q4, .ref q5, .ref q6, .int 0, .int 0])), (q1, .inl (cA 0, 16, .inl (fun _ => 0))), (q2, .inl (cA 0, 16, .inl (fun _ => 0))), (q3, .inl (cA 0, 16, .inl (fun _ => 0))), (q4, .inl (cA 0, 16, .inl (fun _ => 0))), (q5, .inl (cA 0, 16, .inl (fun _ => 0))), (q6, .inl (cA 0, 16, .inl (fun _ => 0)))] H := hP
  have hD : va_D A [(a, .inr (1, [.ref p1, .null, .ref q1, .ref q2, .ref q3, .ref q4, .ref q5, .ref q6, .int 0, .int 0])), (q1, .inl (cA 0, 16, .inl (fun _ => 0))), (q2, .inl (cA 0, 16, .inl (fun _ => 0))), (q3, .inl (cA 0, 16, .inl (fun _ => 0))), (q4, .inl (cA 0, 16, .inl (fun _ => 0))), (q5, .inl (cA 0, 16, .inl (fun _ => 0))), (q6, .inl (cA 0, 16, .inl (fun _ => 0)))] := hD
  refine lv_aload_n hx hb dX2_init_57 rfl (lv_at hl 0 rfl) ?_
  refine lv_aload_n hx hb dX2_init_58 rfl (lv_at hl 2 rfl) ?_
  refine va_putF (D := D) (ci := 1) (v := .ref p2) (ty := .object "LeverCurtain$Machines") (C := RX2) (T := TX2) (N := 10) hx hb hts xin_X2 tyX2 tyX2_ok nmX2 hown hK hP hD hS 0 rfl rfl 1 (by decide) (hts (.fieldLink RX2 36 "LeverCurtain$Fit" "machines" "LLeverCurtain$Machines;") (lw_gm 328 (by decide +kernel) rfl)) (fun _ h9 => h9) rfl hin rfl (by decide +kernel) rfl rfl (Nat.le_of_ble_eq_true rfl) dX2_init_59 (fun H locs hP hD hS => ?_)
  have hP : va_P D vwCl [(a, .inr (1, [.ref p1, .ref p2, .ref q1, .ref q2, .ref q3, .ref q4, .ref q5, .ref q6, .int 0, .int 0])), (q1, .inl (cA 0, 16, .inl (fun _ => 0))), (q2, .inl (cA 0, 16, .inl (fun _ => 0))), (q3, .inl (cA 0, 16, .inl (fun _ => 0))), (q4, .inl (cA 0, 16, .inl (fun _ => 0))), (q5, .inl (cA 0, 16, .inl (fun _ => 0))), (q6, .inl (cA 0, 16, .inl (fun _ => 0)))] H := hP
  have hD : va_D A [(a, .inr (1, [.ref p1, .ref p2, .ref q1, .ref q2, .ref q3, .ref q4, .ref q5, .ref q6, .int 0, .int 0])), (q1, .inl (cA 0, 16, .inl (fun _ => 0))), (q2, .inl (cA 0, 16, .inl (fun _ => 0))), (q3, .inl (cA 0, 16, .inl (fun _ => 0))), (q4, .inl (cA 0, 16, .inl (fun _ => 0))), (q5, .inl (cA 0, 16, .inl (fun _ => 0))), (q6, .inl (cA 0, 16, .inl (fun _ => 0)))] := hD
  have hP9 := hP.sub (ws' := [(a, .inr (1, [.ref p1, .ref p2, .ref q1, .ref q2, .ref q3, .ref q4, .ref q5, .ref q6, .int 0, .int 0])), (q1, .inl (cA 0, 16, .inl (fun _ => 0))), (q2, .inl (cA 0, 16, .inl (fun _ => 0))), (q3, .inl (cA 0, 16, .inl (fun _ => 0))), (q4, .inl (cA 0, 16, .inl (fun _ => 0))), (q5, .inl (cA 0, 16, .inl (fun _ => 0))), (q6, .inl (cA 0, 16, .inl (fun _ => 0)))]) [0, 1, 2, 3, 4, 5, 6] rfl
  have hD9 := hD.sub (ws' := [(a, .inr (1, [.ref p1, .ref p2, .ref q1, .ref q2, .ref q3, .ref q4, .ref q5, .ref q6, .int 0, .int 0])), (q1, .inl (cA 0, 16, .inl (fun _ => 0))), (q2, .inl (cA 0, 16, .inl (fun _ => 0))), (q3, .inl (cA 0, 16, .inl (fun _ => 0))), (q4, .inl (cA 0, 16, .inl (fun _ => 0))), (q5, .inl (cA 0, 16, .inl (fun _ => 0))), (q6, .inl (cA 0, 16, .inl (fun _ => 0)))]) [0, 1, 2, 3, 4, 5, 6] (by decide) rfl
  exact W.vret hx hb hr (fun t ht hW => ⟨⟨fun k => ([q1, q2, q3, q4, q5, q6] : List Nat).getD k 0, rfl, trivial, by rw [ht]; exact hP9, va_K.moved hW.alike hK, hD9⟩, hS.F ht⟩) hS.2.2 dX2_init_62
set_option maxHeartbeats 8000000 in
set_option maxRecDepth 100000 in
theorem c_X8_init (l : Launch) (D : va_G) (cA : Nat → ClassId) (sa : Nat → Nat) (a sz : Nat) (p1 : Nat) (p2 : Nat) (p3 : Nat) : Met l yX8_init (xws yX8_init cX8_init 4 none) ({ frames := 8, cells := 4, slots := 3104, locals := 512 }) (va_Pc [.ref a, .ref p1, .ref p2, .ref p3] (fun U => U.heap.size = sz ∧ va_P D vwCl [(a, .inr (7, [.null, .null, .null, .null, .null, .null, .null]))] U.heap ∧ va_K D vwCl (xTy cA) U ∧ va_D (fun _ => True) [(a, .inr (7, [.null, .null, .null, .null, .null, .null, .null]))] ∧ yZ (va_A [(a, .inr (7, [.null, .null, .null, .null, .null, .null, .null]))] sz) sa U)) (va_Qv (fun _ : Nat → Nat => True) (fun u t => va_P D vwCl [(a, .inr (7, [.ref p1, .ref p2, .ref p3, .ref (u 0), .ref (u 1), .ref (u 2), .ref (u 3)])), ((u 0), .inl (cA 0, 1536, .inl (fun _ => 0))), ((u 1), .inl (cA 0, 1536, .inl (fun _ => 0))), ((u 2), .inl (cA 0, 16, .inl (fun _ => 0))), ((u 3), .inl (cA 0, 16, .inl (fun _ => 0)))] t.heap ∧ va_K D vwCl (xTy cA) t ∧ va_D (va_A [(a, .inr (7, [.null, .null, .null, .null, .null, .null, .null]))] sz) [(a, .inr (7, [.ref p1, .ref p2, .ref p3, .ref (u 0), .ref (u 1), .ref (u 2), .ref (u 3)])), ((u 0), .inl (cA 0, 1536, .inl (fun _ => 0))), ((u 1), .inl (cA 0, 1536, .inl (fun _ => 0))), ((u 2), .inl (cA 0, 16, .inl (fun _ => 0))), ((u 3), .inl (cA 0, 16, .inl (fun _ => 0)))]) (va_A [(a, .inr (7, [.null, .null, .null, .null, .null, .null, .null]))] sz)) 4 3104 (va_A [(a, .inr (7, [.null, .null, .null, .null, .null, .null, .null]))] sz) := by
  refine Met.ofW (cc := cX8_init) (maxL := 4) (ret := none) (by decide +kernel) rfl ?_
  intro p e s m args below meth c s₁ B hml hv
  obtain ⟨rfl, hsz, hP, hK, hD0, hZ⟩ := hv
  have hx := B.exec
  have hb := B.bytes
  have hr := B.returns
  have hts0 := atoms_spec (ws := xws yX8_init cX8_init 4 none) B.pre
  have hts : ∀ w ∈ lw_g, w.before _ s = true := fun w hw => hts0 w (List.mem_cons_of_mem _ hw)
  have hown : s.vm.findClass RX8 = some m.cls := findClass_of_methodNamed B.named
  have hlocks := B.notSynchronized
  have hin : meth.name = "<init>" := (name_of_methodNamed B.named B.method).1
  subst hsz
  have hD := hD0.self (sz := s.heap.size)
  generalize hAe : va_A [(a, .inr (7, [.null, .null, .null, .null, .null, .null, .null]))] s.heap.size = A at hD hZ ⊢
  have hA : ∀ q : Nat, s.heap.size ≤ q → A q := fun q h => by rw [← hAe]; exact Or.inr h
  have hS : va_S A s.heap s.heap [] := va_S.rf
  have hl := lv_entry ([.ref a, .ref p1, .ref p2, .ref p3]) (n := 4) (Nat.le_of_ble_eq_true rfl)
  rw [lg_entry_eq]
  generalize (lg_sl ([.ref a, .ref p1, .ref p2, .ref p3]) ++ List.replicate (4 - (lg_sl ([.ref a, .ref p1, .ref p2, .ref p3])).length) Slot.unset).toArray = ls at hl ⊢
  have hl : lv_has ls 4 [(0, .ref a), (1, .ref p1), (2, .ref p2), (3, .ref p3)] := hl
  refine lv_aload_n hx hb dX8_init_0 rfl (lv_at hl 0 rfl) ?_
  refine W.objInit hx hb hown (hts (.methodLink RX8 5 objectInit) (lw_gm 363 (by decide +kernel) rfl)) (hts _ cmem_oi) (hts _ cmem_oc) rfl (by rw [hml]; exact hl.1) rfl dX8_init_1 (Nat.le_of_ble_eq_true rfl) (Nat.le_of_ble_eq_true rfl) ?_
  refine W.eq (g2 := F0 m 4 ls []) rfl ?_
  refine lv_aload_n hx hb dX8_init_4 rfl (lv_at hl 0 rfl) ?_
  refine lv_sipush (v := (1536 : Int32)) hx hb dX8_init_5 (by decide) ?_
  refine xnewa (t := 0) (atype := .int) (ty := .int) (N' := 1536) rfl rfl xRA_int hx hb (hts _ cmem_ai) hK hP hD hS hA (fun _ => rfl) (by decide) (by decide) (by decide) (Nat.le_of_ble_eq_true rfl) (Nat.le_of_ble_eq_true rfl) dX8_init_8 (fun q1 H hP hD hS => ?_)
  have hP : va_P D vwCl [(a, .inr (7, [.null, .null, .null, .null, .null, .null, .null])), (q1, .inl (cA 0, 1536, .inl (fun _ => 0)))] H := hP
  have hD : va_D A [(a, .inr (7, [.null, .null, .null, .null, .null, .null, .null])), (q1, .inl (cA 0, 1536, .inl (fun _ => 0)))] := hD
  refine W.widen (k := 1) (n := 1536) (Nat.le_of_ble_eq_true rfl) (Nat.le_of_ble_eq_true rfl) ?_
  refine va_putF (D := D) (ci := 7) (v := .ref q1) (ty := .array .int) (C := RX8) (T := TX8) (N := 7) hx hb hts xin_X8 tyX8 tyX8_ok nmX8 hown hK hP hD hS 0 rfl rfl 3 (by decide) (hts (.fieldLink RX8 15 "LeverCurtain$Tally" "leads" "[I") (lw_gm 367 (by decide +kernel) rfl)) (fun _ h9 => h9) rfl hin rfl (by decide +kernel) rfl rfl (Nat.le_of_ble_eq_true rfl) dX8_init_10 (fun H locs hP hD hS => ?_)
  have hP : va_P D vwCl [(a, .inr (7, [.null, .null, .null, .ref q1, .null, .null, .null])), (q1, .inl (cA 0, 1536, .inl (fun _ => 0)))] H := hP
  have hD : va_D A [(a, .inr (7, [.null, .null, .null, .ref q1, .null, .null, .null])), (q1, .inl (cA 0, 1536, .inl (fun _ => 0)))] := hD
  refine lv_aload_n hx hb dX8_init_13 rfl (lv_at hl 0 rfl) ?_
  refine lv_sipush (v := (1536 : Int32)) hx hb dX8_init_14 (by decide) ?_
  refine xnewa (t := 0) (atype := .int) (ty := .int) (N' := 1536) rfl rfl xRA_int hx hb (hts _ cmem_ai) hK hP hD hS hA (fun _ => rfl) (by decide) (by decide) (by decide) (Nat.le_of_ble_eq_true rfl) (Nat.le_of_ble_eq_true rfl) dX8_init_17 (fun q2 H hP hD hS => ?_)
  have hP : va_P D vwCl [(a, .inr (7, [.null, .null, .null, .ref q1, .null, .null, .null])), (q1, .inl (cA 0, 1536, .inl (fun _ => 0))), (q2, .inl (cA 0, 1536, .inl (fun _ => 0)))] H := hP
  have hD : va_D A [(a, .inr (7, [.null, .null, .null, .ref q1, .null, .null, .null])), (q1, .inl (cA 0, 1536, .inl (fun _ => 0))), (q2, .inl (cA 0, 1536, .inl (fun _ => 0)))] := hD
  refine W.widen (k := 2) (n := 3072) (Nat.le_of_ble_eq_true rfl) (Nat.le_of_ble_eq_true rfl) ?_
  refine va_putF (D := D) (ci := 7) (v := .ref q2) (ty := .array .int) (C := RX8) (T := TX8) (N := 7) hx hb hts xin_X8 tyX8 tyX8_ok nmX8 hown hK hP hD hS 0 rfl rfl 4 (by decide) (hts (.fieldLink RX8 19 "LeverCurtain$Tally" "openedLeads" "[I") (lw_gm 368 (by decide +kernel) rfl)) (fun _ h9 => h9) rfl hin rfl (by decide +kernel) rfl rfl (Nat.le_of_ble_eq_true rfl) dX8_init_19 (fun H locs hP hD hS => ?_)
  have hP : va_P D vwCl [(a, .inr (7, [.null, .null, .null, .ref q1, .ref q2, .null, .null])), (q1, .inl (cA 0, 1536, .inl (fun _ => 0))), (q2, .inl (cA 0, 1536, .inl (fun _ => 0)))] H := hP
  have hD : va_D A [(a, .inr (7, [.null, .null, .null, .ref q1, .ref q2, .null, .null])), (q1, .inl (cA 0, 1536, .inl (fun _ => 0))), (q2, .inl (cA 0, 1536, .inl (fun _ => 0)))] := hD
  refine lv_aload_n hx hb dX8_init_22 rfl (lv_at hl 0 rfl) ?_
  refine lv_bipush (v := (16 : Int32)) hx hb dX8_init_23 (by decide) ?_
  refine xnewa (t := 0) (atype := .int) (ty := .int) (N' := 16) rfl rfl xRA_int hx hb (hts _ cmem_ai) hK hP hD hS hA (fun _ => rfl) (by decide) (by decide) (by decide) (Nat.le_of_ble_eq_true rfl) (Nat.le_of_ble_eq_true rfl) dX8_init_25 (fun q3 H hP hD hS => ?_)
  have hP : va_P D vwCl [(a, .inr (7, [.null, .null, .null, .ref q1, .ref q2, .null, .null])), (q1, .inl (cA 0, 1536, .inl (fun _ => 0))), (q2, .inl (cA 0, 1536, .inl (fun _ => 0))), (q3, .inl (cA 0, 16, .inl (fun _ => 0)))] H := hP
  have hD : va_D A [(a, .inr (7, [.null, .null, .null, .ref q1, .ref q2, .null, .null])), (q1, .inl (cA 0, 1536, .inl (fun _ => 0))), (q2, .inl (cA 0, 1536, .inl (fun _ => 0))), (q3, .inl (cA 0, 16, .inl (fun _ => 0)))] := hD
  refine W.widen (k := 3) (n := 3088) (Nat.le_of_ble_eq_true rfl) (Nat.le_of_ble_eq_true rfl) ?_
  refine va_putF (D := D) (ci := 7) (v := .ref q3) (ty := .array .int) (C := RX8) (T := TX8) (N := 7) hx hb hts xin_X8 tyX8 tyX8_ok nmX8 hown hK hP hD hS 0 rfl rfl 5 (by decide) (hts (.fieldLink RX8 22 "LeverCurtain$Tally" "absentLeast" "[I") (lw_gm 369 (by decide +kernel) rfl)) (fun _ h9 => h9) rfl hin rfl (by decide +kernel) rfl rfl (Nat.le_of_ble_eq_true rfl) dX8_init_27 (fun H locs hP hD hS => ?_)
  have hP : va_P D vwCl [(a, .inr (7, [.null, .null, .null, .ref q1, .ref q2, .ref q3, .null])), (q1, .inl (cA 0, 1536, .inl (fun _ => 0))), (q2, .inl (cA 0, 1536, .inl (fun _ => 0))), (q3, .inl (cA 0, 16, .inl (fun _ => 0)))] H := hP
  have hD : va_D A [(a, .inr (7, [.null, .null, .null, .ref q1, .ref q2, .ref q3, .null])), (q1, .inl (cA 0, 1536, .inl (fun _ => 0))), (q2, .inl (cA 0, 1536, .inl (fun _ => 0))), (q3, .inl (cA 0, 16, .inl (fun _ => 0)))] := hD
  refine lv_aload_n hx hb dX8_init_30 rfl (lv_at hl 0 rfl) ?_
  refine lv_bipush (v := (16 : Int32)) hx hb dX8_init_31 (by decide) ?_
  refine xnewa (t := 0) (atype := .int) (ty := .int) (N' := 16) rfl rfl xRA_int hx hb (hts _ cmem_ai) hK hP hD hS hA (fun _ => rfl) (by decide) (by decide) (by decide) (Nat.le_of_ble_eq_true rfl) (Nat.le_of_ble_eq_true rfl) dX8_init_33 (fun q4 H hP hD hS => ?_)
  have hP : va_P D vwCl [(a, .inr (7, [.null, .null, .null, .ref q1, .ref q2, .ref q3, .null])), (q1, .inl (cA 0, 1536, .inl (fun _ => 0))), (q2, .inl (cA 0, 1536, .inl (fun _ => 0))), (q3, .inl (cA 0, 16, .inl (fun _ => 0))), (q4, .inl (cA 0, 16, .inl (fun _ => 0)))] H := hP
  have hD : va_D A [(a, .inr (7, [.null, .null, .null, .ref q1, .ref q2, .ref q3, .null])), (q1, .inl (cA 0, 1536, .inl (fun _ => 0))), (q2, .inl (cA 0, 1536, .inl (fun _ => 0))), (q3, .inl (cA 0, 16, .inl (fun _ => 0))), (q4, .inl (cA 0, 16, .inl (fun _ => 0)))] := hD
  refine W.widen (k := 4) (n := 3104) (Nat.le_of_ble_eq_true rfl) (Nat.le_of_ble_eq_true rfl) ?_
  refine va_putF (D := D) (ci := 7) (v := .ref q4) (ty := .array .int) (C := RX8) (T := TX8) (N := 7) hx hb hts xin_X8 tyX8 tyX8_ok nmX8 hown hK hP hD hS 0 rfl rfl 6 (by decide) (hts (.fieldLink RX8 25 "LeverCurtain$Tally" "absentMost" "[I") (lw_gm 370 (by decide +kernel) rfl)) (fun _ h9 => h9) rfl hin rfl (by decide +kernel) rfl rfl (Nat.le_of_ble_eq_true rfl) dX8_init_35 (fun H locs hP hD hS => ?_)
  have hP : va_P D vwCl [(a, .inr (7, [.null, .null, .null, .ref q1, .ref q2, .ref q3, .ref q4])), (q1, .inl (cA 0, 1536, .inl (fun _ => 0))), (q2, .inl (cA 0, 1536, .inl (fun _ => 0))), (q3, .inl (cA 0, 16, .inl (fun _ => 0))), (q4, .inl (cA 0, 16, .inl (fun _ => 0)))] H := hP
  have hD : va_D A [(a, .inr (7, [.null, .null, .null, .ref q1, .ref q2, .ref q3, .ref q4])), (q1, .inl (cA 0, 1536, .inl (fun _ => 0))), (q2, .inl (cA 0, 1536, .inl (fun _ => 0))), (q3, .inl (cA 0, 16, .inl (fun _ => 0))), (q4, .inl (cA 0, 16, .inl (fun _ => 0)))] := hD
  refine lv_aload_n hx hb dX8_init_38 rfl (lv_at hl 0 rfl) ?_
  refine lv_aload_n hx hb dX8_init_39 rfl (lv_at hl 1 rfl) ?_
  refine va_putF (D := D) (ci := 7) (v := .ref p1) (ty := .object "LeverCurtain$Booth") (C := RX8) (T := TX8) (N := 7) hx hb hts xin_X8 tyX8 tyX8_ok nmX8 hown hK hP hD hS 0 rfl rfl 0 (by decide) (hts (.fieldLink RX8 28 "LeverCurtain$Tally" "booth" "LLeverCurtain$Booth;") (lw_gm 364 (by decide +kernel) rfl)) (fun _ h9 => h9) rfl hin rfl (by decide +kernel) rfl rfl (Nat.le_of_ble_eq_true rfl) dX8_init_40 (fun H locs hP hD hS => ?_)
  have hP : va_P D vwCl [(a, .inr (7, [.ref p1, .null, .null, .ref q1, .ref q2, .ref q3, .ref q4])), (q1, .inl (cA 0, 1536, .inl (fun _ => 0))), (q2, .inl (cA 0, 1536, .inl (fun _ => 0))), (q3, .inl (cA 0, 16, .inl (fun _ => 0))), (q4, .inl (cA 0, 16, .inl (fun _ => 0)))] H := hP
  have hD : va_D A [(a, .inr (7, [.ref p1, .null, .null, .ref q1, .ref q2, .ref q3, .ref q4])), (q1, .inl (cA 0, 1536, .inl (fun _ => 0))), (q2, .inl (cA 0, 1536, .inl (fun _ => 0))), (q3, .inl (cA 0, 16, .inl (fun _ => 0))), (q4, .inl (cA 0, 16, .inl (fun _ => 0)))] := hD
  refine lv_aload_n hx hb dX8_init_43 rfl (lv_at hl 0 rfl) ?_
  refine lv_aload_n hx hb dX8_init_44 rfl (lv_at hl 2 rfl) ?_
  refine va_putF (D := D) (ci := 7) (v := .ref p2) (ty := .object "LeverCurtain$Machines") (C := RX8) (T := TX8) (N := 7) hx hb hts xin_X8 tyX8 tyX8_ok nmX8 hown hK hP hD hS 0 rfl rfl 1 (by decide) (hts (.fieldLink RX8 32 "LeverCurtain$Tally" "machines" "LLeverCurtain$Machines;") (lw_gm 365 (by decide +kernel) rfl)) (fun _ h9 => h9) rfl hin rfl (by decide +kernel) rfl rfl (Nat.le_of_ble_eq_true rfl) dX8_init_45 (fun H locs hP hD hS => ?_)
  have hP : va_P D vwCl [(a, .inr (7, [.ref p1, .ref p2, .null, .ref q1, .ref q2, .ref q3, .ref q4])), (q1, .inl (cA 0, 1536, .inl (fun _ => 0))), (q2, .inl (cA 0, 1536, .inl (fun _ => 0))), (q3, .inl (cA 0, 16, .inl (fun _ => 0))), (q4, .inl (cA 0, 16, .inl (fun _ => 0)))] H := hP
  have hD : va_D A [(a, .inr (7, [.ref p1, .ref p2, .null, .ref q1, .ref q2, .ref q3, .ref q4])), (q1, .inl (cA 0, 1536, .inl (fun _ => 0))), (q2, .inl (cA 0, 1536, .inl (fun _ => 0))), (q3, .inl (cA 0, 16, .inl (fun _ => 0))), (q4, .inl (cA 0, 16, .inl (fun _ => 0)))] := hD
  refine lv_aload_n hx hb dX8_init_48 rfl (lv_at hl 0 rfl) ?_
  refine lv_aload_n hx hb dX8_init_49 rfl (lv_at hl 3 rfl) ?_
  refine va_putF (D := D) (ci := 7) (v := .ref p3) (ty := .object "LeverCurtain$Fit") (C := RX8) (T := TX8) (N := 7) hx hb hts xin_X8 tyX8 tyX8_ok nmX8 hown hK hP hD hS 0 rfl rfl 2 (by decide) (hts (.fieldLink RX8 36 "LeverCurtain$Tally" "fit" "LLeverCurtain$Fit;") (lw_gm 366 (by decide +kernel) rfl)) (fun _ h9 => h9) rfl hin rfl (by decide +kernel) rfl rfl (Nat.le_of_ble_eq_true rfl) dX8_init_50 (fun H locs hP hD hS => ?_)
  have hP : va_P D vwCl [(a, .inr (7, [.ref p1, .ref p2, .ref p3, .ref q1, .ref q2, .ref q3, .ref q4])), (q1, .inl (cA 0, 1536, .inl (fun _ => 0))), (q2, .inl (cA 0, 1536, .inl (fun _ => 0))), (q3, .inl (cA 0, 16, .inl (fun _ => 0))), (q4, .inl (cA 0, 16, .inl (fun _ => 0)))] H := hP
  have hD : va_D A [(a, .inr (7, [.ref p1, .ref p2, .ref p3, .ref q1, .ref q2, .ref q3, .ref q4])), (q1, .inl (cA 0, 1536, .inl (fun _ => 0))), (q2, .inl (cA 0, 1536, .inl (fun _ => 0))), (q3, .inl (cA 0, 16, .inl (fun _ => 0))), (q4, .inl (cA 0, 16, .inl (fun _ => 0)))] := hD
  have hP9 := hP.sub (ws' := [(a, .inr (7, [.ref p1, .ref p2, .ref p3, .ref q1, .ref q2, .ref q3, .ref q4])), (q1, .inl (cA 0, 1536, .inl (fun _ => 0))), (q2, .inl (cA 0, 1536, .inl (fun _ => 0))), (q3, .inl (cA 0, 16, .inl (fun _ => 0))), (q4, .inl (cA 0, 16, .inl (fun _ => 0)))]) [0, 1, 2, 3, 4] rfl
  have hD9 := hD.sub (ws' := [(a, .inr (7, [.ref p1, .ref p2, .ref p3, .ref q1, .ref q2, .ref q3, .ref q4])), (q1, .inl (cA 0, 1536, .inl (fun _ => 0))), (q2, .inl (cA 0, 1536, .inl (fun _ => 0))), (q3, .inl (cA 0, 16, .inl (fun _ => 0))), (q4, .inl (cA 0, 16, .inl (fun _ => 0)))]) [0, 1, 2, 3, 4] (by decide) rfl
  exact W.vret hx hb hr (fun t ht hW => ⟨⟨fun k => ([q1, q2, q3, q4] : List Nat).getD k 0, rfl, trivial, by rw [ht]; exact hP9, va_K.moved hW.alike hK, hD9⟩, hS.F ht⟩) hS.2.2 dX8_init_53
set_option maxHeartbeats 8000000 in
set_option maxRecDepth 100000 in
theorem c_X10_init (l : Launch) (D : va_G) (cA : Nat → ClassId) (sa : Nat → Nat) (a sz : Nat) (p1 : Nat) (p2 : Nat) : Met l yX10_init (xws yX10_init cX10_init 3 none) ({ frames := 8, cells := 3, slots := 24, locals := 512 }) (va_Pc [.ref a, .ref p1, .ref p2] (fun U => U.heap.size = sz ∧ va_P D vwCl [(a, .inr (9, [.null, .null, .int 0, .null, .null, .null]))] U.heap ∧ va_K D vwCl (xTy cA) U ∧ va_D (fun _ => True) [(a, .inr (9, [.null, .null, .int 0, .null, .null, .null]))] ∧ yZ (va_A [(a, .inr (9, [.null, .null, .int 0, .null, .null, .null]))] sz) sa U)) (va_Qv (fun _ : Nat → Nat => True) (fun u t => va_P D vwCl [(a, .inr (9, [.ref p1, .ref p2, .int 0, .ref (u 0), .ref (u 1), .ref (u 2)])), ((u 0), .inl (cA 0, 8, .inl (fun _ => 0))), ((u 1), .inl (cA 0, 8, .inl (fun _ => 0))), ((u 2), .inl (cA 0, 8, .inl (fun _ => 0)))] t.heap ∧ va_K D vwCl (xTy cA) t ∧ va_D (va_A [(a, .inr (9, [.null, .null, .int 0, .null, .null, .null]))] sz) [(a, .inr (9, [.ref p1, .ref p2, .int 0, .ref (u 0), .ref (u 1), .ref (u 2)])), ((u 0), .inl (cA 0, 8, .inl (fun _ => 0))), ((u 1), .inl (cA 0, 8, .inl (fun _ => 0))), ((u 2), .inl (cA 0, 8, .inl (fun _ => 0)))]) (va_A [(a, .inr (9, [.null, .null, .int 0, .null, .null, .null]))] sz)) 3 24 (va_A [(a, .inr (9, [.null, .null, .int 0, .null, .null, .null]))] sz) := by
  refine Met.ofW (cc := cX10_init) (maxL := 3) (ret := none) (by decide +kernel) rfl ?_
  intro p e s m args below meth c s₁ B hml hv
  obtain ⟨rfl, hsz, hP, hK, hD0, hZ⟩ := hv
  have hx := B.exec
  have hb := B.bytes
  have hr := B.returns
  have hts0 := atoms_spec (ws := xws yX10_init cX10_init 3 none) B.pre
  have hts : ∀ w ∈ lw_g, w.before _ s = true := fun w hw => hts0 w (List.mem_cons_of_mem _ hw)
  have hown : s.vm.findClass RX10 = some m.cls := findClass_of_methodNamed B.named
  have hlocks := B.notSynchronized
  have hin : meth.name = "<init>" := (name_of_methodNamed B.named B.method).1
  subst hsz
  have hD := hD0.self (sz := s.heap.size)
  generalize hAe : va_A [(a, .inr (9, [.null, .null, .int 0, .null, .null, .null]))] s.heap.size = A at hD hZ ⊢
  have hA : ∀ q : Nat, s.heap.size ≤ q → A q := fun q h => by rw [← hAe]; exact Or.inr h
  have hS : va_S A s.heap s.heap [] := va_S.rf
  have hl := lv_entry ([.ref a, .ref p1, .ref p2]) (n := 3) (Nat.le_of_ble_eq_true rfl)
  rw [lg_entry_eq]
  generalize (lg_sl ([.ref a, .ref p1, .ref p2]) ++ List.replicate (3 - (lg_sl ([.ref a, .ref p1, .ref p2])).length) Slot.unset).toArray = ls at hl ⊢
  have hl : lv_has ls 3 [(0, .ref a), (1, .ref p1), (2, .ref p2)] := hl
  refine lv_aload_n hx hb dX10_init_0 rfl (lv_at hl 0 rfl) ?_
  refine W.objInit hx hb hown (hts (.methodLink RX10 3 objectInit) (lw_gm 391 (by decide +kernel) rfl)) (hts _ cmem_oi) (hts _ cmem_oc) rfl (by rw [hml]; exact hl.1) rfl dX10_init_1 (Nat.le_of_ble_eq_true rfl) (Nat.le_of_ble_eq_true rfl) ?_
  refine W.eq (g2 := F0 m 4 ls []) rfl ?_
  refine lv_aload_n hx hb dX10_init_4 rfl (lv_at hl 0 rfl) ?_
  refine lv_bipush (v := (8 : Int32)) hx hb dX10_init_5 (by decide) ?_
  refine xnewa (t := 0) (atype := .int) (ty := .int) (N' := 8) rfl rfl xRA_int hx hb (hts _ cmem_ai) hK hP hD hS hA (fun _ => rfl) (by decide) (by decide) (by decide) (Nat.le_of_ble_eq_true rfl) (Nat.le_of_ble_eq_true rfl) dX10_init_7 (fun q1 H hP hD hS => ?_)
  have hP : va_P D vwCl [(a, .inr (9, [.null, .null, .int 0, .null, .null, .null])), (q1, .inl (cA 0, 8, .inl (fun _ => 0)))] H := hP
  have hD : va_D A [(a, .inr (9, [.null, .null, .int 0, .null, .null, .null])), (q1, .inl (cA 0, 8, .inl (fun _ => 0)))] := hD
  refine W.widen (k := 1) (n := 8) (Nat.le_of_ble_eq_true rfl) (Nat.le_of_ble_eq_true rfl) ?_
  refine va_putF (D := D) (ci := 9) (v := .ref q1) (ty := .array .int) (C := RX10) (T := TX10) (N := 6) hx hb hts xin_X10 tyX10 tyX10_ok nmX10 hown hK hP hD hS 0 rfl rfl 3 (by decide) (hts (.fieldLink RX10 11 "LeverCurtain$Trials" "pulled" "[I") (lw_gm 396 (by decide +kernel) rfl)) (fun _ h9 => h9) rfl hin rfl (by decide +kernel) rfl rfl (Nat.le_of_ble_eq_true rfl) dX10_init_9 (fun H locs hP hD hS => ?_)
  have hP : va_P D vwCl [(a, .inr (9, [.null, .null, .int 0, .ref q1, .null, .null])), (q1, .inl (cA 0, 8, .inl (fun _ => 0)))] H := hP
  have hD : va_D A [(a, .inr (9, [.null, .null, .int 0, .ref q1, .null, .null])), (q1, .inl (cA 0, 8, .inl (fun _ => 0)))] := hD
  refine lv_aload_n hx hb dX10_init_12 rfl (lv_at hl 0 rfl) ?_
  refine lv_bipush (v := (8 : Int32)) hx hb dX10_init_13 (by decide) ?_
  refine xnewa (t := 0) (atype := .int) (ty := .int) (N' := 8) rfl rfl xRA_int hx hb (hts _ cmem_ai) hK hP hD hS hA (fun _ => rfl) (by decide) (by decide) (by decide) (Nat.le_of_ble_eq_true rfl) (Nat.le_of_ble_eq_true rfl) dX10_init_15 (fun q2 H hP hD hS => ?_)
  have hP : va_P D vwCl [(a, .inr (9, [.null, .null, .int 0, .ref q1, .null, .null])), (q1, .inl (cA 0, 8, .inl (fun _ => 0))), (q2, .inl (cA 0, 8, .inl (fun _ => 0)))] H := hP
  have hD : va_D A [(a, .inr (9, [.null, .null, .int 0, .ref q1, .null, .null])), (q1, .inl (cA 0, 8, .inl (fun _ => 0))), (q2, .inl (cA 0, 8, .inl (fun _ => 0)))] := hD
  refine W.widen (k := 2) (n := 16) (Nat.le_of_ble_eq_true rfl) (Nat.le_of_ble_eq_true rfl) ?_
  refine va_putF (D := D) (ci := 9) (v := .ref q2) (ty := .array .int) (C := RX10) (T := TX10) (N := 6) hx hb hts xin_X10 tyX10 tyX10_ok nmX10 hown hK hP hD hS 0 rfl rfl 4 (by decide) (hts (.fieldLink RX10 15 "LeverCurtain$Trials" "times" "[I") (lw_gm 397 (by decide +kernel) rfl)) (fun _ h9 => h9) rfl hin rfl (by decide +kernel) rfl rfl (Nat.le_of_ble_eq_true rfl) dX10_init_17 (fun H locs hP hD hS => ?_)
  have hP : va_P D vwCl [(a, .inr (9, [.null, .null, .int 0, .ref q1, .ref q2, .null])), (q1, .inl (cA 0, 8, .inl (fun _ => 0))), (q2, .inl (cA 0, 8, .inl (fun _ => 0)))] H := hP
  have hD : va_D A [(a, .inr (9, [.null, .null, .int 0, .ref q1, .ref q2, .null])), (q1, .inl (cA 0, 8, .inl (fun _ => 0))), (q2, .inl (cA 0, 8, .inl (fun _ => 0)))] := hD
  refine lv_aload_n hx hb dX10_init_20 rfl (lv_at hl 0 rfl) ?_
  refine lv_bipush (v := (8 : Int32)) hx hb dX10_init_21 (by decide) ?_
  refine xnewa (t := 0) (atype := .int) (ty := .int) (N' := 8) rfl rfl xRA_int hx hb (hts _ cmem_ai) hK hP hD hS hA (fun _ => rfl) (by decide) (by decide) (by decide) (Nat.le_of_ble_eq_true rfl) (Nat.le_of_ble_eq_true rfl) dX10_init_23 (fun q3 H hP hD hS => ?_)
  have hP : va_P D vwCl [(a, .inr (9, [.null, .null, .int 0, .ref q1, .ref q2, .null])), (q1, .inl (cA 0, 8, .inl (fun _ => 0))), (q2, .inl (cA 0, 8, .inl (fun _ => 0))), (q3, .inl (cA 0, 8, .inl (fun _ => 0)))] H := hP
  have hD : va_D A [(a, .inr (9, [.null, .null, .int 0, .ref q1, .ref q2, .null])), (q1, .inl (cA 0, 8, .inl (fun _ => 0))), (q2, .inl (cA 0, 8, .inl (fun _ => 0))), (q3, .inl (cA 0, 8, .inl (fun _ => 0)))] := hD
  refine W.widen (k := 3) (n := 24) (Nat.le_of_ble_eq_true rfl) (Nat.le_of_ble_eq_true rfl) ?_
  refine va_putF (D := D) (ci := 9) (v := .ref q3) (ty := .array .int) (C := RX10) (T := TX10) (N := 6) hx hb hts xin_X10 tyX10 tyX10_ok nmX10 hown hK hP hD hS 0 rfl rfl 5 (by decide) (hts (.fieldLink RX10 18 "LeverCurtain$Trials" "seen" "[I") (lw_gm 398 (by decide +kernel) rfl)) (fun _ h9 => h9) rfl hin rfl (by decide +kernel) rfl rfl (Nat.le_of_ble_eq_true rfl) dX10_init_25 (fun H locs hP hD hS => ?_)
  have hP : va_P D vwCl [(a, .inr (9, [.null, .null, .int 0, .ref q1, .ref q2, .ref q3])), (q1, .inl (cA 0, 8, .inl (fun _ => 0))), (q2, .inl (cA 0, 8, .inl (fun _ => 0))), (q3, .inl (cA 0, 8, .inl (fun _ => 0)))] H := hP
  have hD : va_D A [(a, .inr (9, [.null, .null, .int 0, .ref q1, .ref q2, .ref q3])), (q1, .inl (cA 0, 8, .inl (fun _ => 0))), (q2, .inl (cA 0, 8, .inl (fun _ => 0))), (q3, .inl (cA 0, 8, .inl (fun _ => 0)))] := hD
  refine lv_aload_n hx hb dX10_init_28 rfl (lv_at hl 0 rfl) ?_
  refine lv_aload_n hx hb dX10_init_29 rfl (lv_at hl 1 rfl) ?_
  refine va_putF (D := D) (ci := 9) (v := .ref p1) (ty := .object "LeverCurtain$Booth") (C := RX10) (T := TX10) (N := 6) hx hb hts xin_X10 tyX10 tyX10_ok nmX10 hown hK hP hD hS 0 rfl rfl 0 (by decide) (hts (.fieldLink RX10 21 "LeverCurtain$Trials" "booth" "LLeverCurtain$Booth;") (lw_gm 392 (by decide +kernel) rfl)) (fun _ h9 => h9) rfl hin rfl (by decide +kernel) rfl rfl (Nat.le_of_ble_eq_true rfl) dX10_init_30 (fun H locs hP hD hS => ?_)
  have hP : va_P D vwCl [(a, .inr (9, [.ref p1, .null, .int 0, .ref q1, .ref q2, .ref q3])), (q1, .inl (cA 0, 8, .inl (fun _ => 0))), (q2, .inl (cA 0, 8, .inl (fun _ => 0))), (q3, .inl (cA 0, 8, .inl (fun _ => 0)))] H := hP
  have hD : va_D A [(a, .inr (9, [.ref p1, .null, .int 0, .ref q1, .ref q2, .ref q3])), (q1, .inl (cA 0, 8, .inl (fun _ => 0))), (q2, .inl (cA 0, 8, .inl (fun _ => 0))), (q3, .inl (cA 0, 8, .inl (fun _ => 0)))] := hD
  refine lv_aload_n hx hb dX10_init_33 rfl (lv_at hl 0 rfl) ?_
  refine lv_aload_n hx hb dX10_init_34 rfl (lv_at hl 2 rfl) ?_
  refine va_putF (D := D) (ci := 9) (v := .ref p2) (ty := .object "LeverCurtain$Machines") (C := RX10) (T := TX10) (N := 6) hx hb hts xin_X10 tyX10 tyX10_ok nmX10 hown hK hP hD hS 0 rfl rfl 1 (by decide) (hts (.fieldLink RX10 25 "LeverCurtain$Trials" "machines" "LLeverCurtain$Machines;") (lw_gm 393 (by decide +kernel) rfl)) (fun _ h9 => h9) rfl hin rfl (by decide +kernel) rfl rfl (Nat.le_of_ble_eq_true rfl) dX10_init_35 (fun H locs hP hD hS => ?_)
  have hP : va_P D vwCl [(a, .inr (9, [.ref p1, .ref p2, .int 0, .ref q1, .ref q2, .ref q3])), (q1, .inl (cA 0, 8, .inl (fun _ => 0))), (q2, .inl (cA 0, 8, .inl (fun _ => 0))), (q3, .inl (cA 0, 8, .inl (fun _ => 0)))] H := hP
  have hD : va_D A [(a, .inr (9, [.ref p1, .ref p2, .int 0, .ref q1, .ref q2, .ref q3])), (q1, .inl (cA 0, 8, .inl (fun _ => 0))), (q2, .inl (cA 0, 8, .inl (fun _ => 0))), (q3, .inl (cA 0, 8, .inl (fun _ => 0)))] := hD
  have hP9 := hP.sub (ws' := [(a, .inr (9, [.ref p1, .ref p2, .int 0, .ref q1, .ref q2, .ref q3])), (q1, .inl (cA 0, 8, .inl (fun _ => 0))), (q2, .inl (cA 0, 8, .inl (fun _ => 0))), (q3, .inl (cA 0, 8, .inl (fun _ => 0)))]) [0, 1, 2, 3] rfl
  have hD9 := hD.sub (ws' := [(a, .inr (9, [.ref p1, .ref p2, .int 0, .ref q1, .ref q2, .ref q3])), (q1, .inl (cA 0, 8, .inl (fun _ => 0))), (q2, .inl (cA 0, 8, .inl (fun _ => 0))), (q3, .inl (cA 0, 8, .inl (fun _ => 0)))]) [0, 1, 2, 3] (by decide) rfl
  exact W.vret hx hb hr (fun t ht hW => ⟨⟨fun k => ([q1, q2, q3] : List Nat).getD k 0, rfl, trivial, by rw [ht]; exact hP9, va_K.moved hW.alike hK, hD9⟩, hS.F ht⟩) hS.2.2 dX10_init_38
set_option maxHeartbeats 8000000 in
set_option maxRecDepth 100000 in
theorem c_X6_init (l : Launch) (D : va_G) (cA : Nat → ClassId) (sa : Nat → Nat) (a sz : Nat)  : Met l yX6_init (xws yX6_init cX6_init 1 none) ({ frames := 8, cells := 6, slots := 2121, locals := 512 }) (va_Pc [.ref a] (fun U => U.heap.size = sz ∧ va_P D vwCl [(a, .inr (5, [.int 0, .int 0, .null, .null, .null, .null, .null, .null]))] U.heap ∧ va_K D vwCl (xTy cA) U ∧ va_D (fun _ => True) [(a, .inr (5, [.int 0, .int 0, .null, .null, .null, .null, .null, .null]))] ∧ yZ (va_A [(a, .inr (5, [.int 0, .int 0, .null, .null, .null, .null, .null, .null]))] sz) sa U)) (va_Qv (fun _ : Nat → Nat => True) (fun u t => va_P D vwCl [(a, .inr (5, [.int 0, .int (1), .ref (u 0), .ref (u 1), .ref (u 2), .ref (u 3), .ref (u 4), .ref (u 5)])), ((u 0), .inl (cA 0, 64, .inl (fun _ => 0))), ((u 1), .inl (cA 0, 8, .inl (fun _ => 0))), ((u 2), .inl (cA 0, 960, .inl (fun _ => 0))), ((u 3), .inl (cA 0, 120, .inl (fun _ => 0))), ((u 4), .inl (cA 0, 960, .inl (fun _ => 0))), ((u 5), .inl (cA 0, 9, .inl (fun _ => 0)))] t.heap ∧ va_K D vwCl (xTy cA) t ∧ va_D (va_A [(a, .inr (5, [.int 0, .int 0, .null, .null, .null, .null, .null, .null]))] sz) [(a, .inr (5, [.int 0, .int (1), .ref (u 0), .ref (u 1), .ref (u 2), .ref (u 3), .ref (u 4), .ref (u 5)])), ((u 0), .inl (cA 0, 64, .inl (fun _ => 0))), ((u 1), .inl (cA 0, 8, .inl (fun _ => 0))), ((u 2), .inl (cA 0, 960, .inl (fun _ => 0))), ((u 3), .inl (cA 0, 120, .inl (fun _ => 0))), ((u 4), .inl (cA 0, 960, .inl (fun _ => 0))), ((u 5), .inl (cA 0, 9, .inl (fun _ => 0)))]) (va_A [(a, .inr (5, [.int 0, .int 0, .null, .null, .null, .null, .null, .null]))] sz)) 6 2121 (va_A [(a, .inr (5, [.int 0, .int 0, .null, .null, .null, .null, .null, .null]))] sz) := by
  refine Met.ofW (cc := cX6_init) (maxL := 1) (ret := none) (by decide +kernel) rfl ?_
  intro p e s m args below meth c s₁ B hml hv
  obtain ⟨rfl, hsz, hP, hK, hD0, hZ⟩ := hv
  have hx := B.exec
  have hb := B.bytes
  have hr := B.returns
  have hts0 := atoms_spec (ws := xws yX6_init cX6_init 1 none) B.pre
  have hts : ∀ w ∈ lw_g, w.before _ s = true := fun w hw => hts0 w (List.mem_cons_of_mem _ hw)
  have hown : s.vm.findClass RX6 = some m.cls := findClass_of_methodNamed B.named
  have hlocks := B.notSynchronized
  have hin : meth.name = "<init>" := (name_of_methodNamed B.named B.method).1
  subst hsz
  have hD := hD0.self (sz := s.heap.size)
  generalize hAe : va_A [(a, .inr (5, [.int 0, .int 0, .null, .null, .null, .null, .null, .null]))] s.heap.size = A at hD hZ ⊢
  have hA : ∀ q : Nat, s.heap.size ≤ q → A q := fun q h => by rw [← hAe]; exact Or.inr h
  have hS : va_S A s.heap s.heap [] := va_S.rf
  have hl := lv_entry ([.ref a]) (n := 1) (Nat.le_of_ble_eq_true rfl)
  rw [lg_entry_eq]
  generalize (lg_sl ([.ref a]) ++ List.replicate (1 - (lg_sl ([.ref a])).length) Slot.unset).toArray = ls at hl ⊢
  have hl : lv_has ls 1 [(0, .ref a)] := hl
  refine lv_aload_n hx hb dX6_init_0 rfl (lv_at hl 0 rfl) ?_
  refine W.objInit hx hb hown (hts (.methodLink RX6 3 objectInit) (lw_gm 417 (by decide +kernel) rfl)) (hts _ cmem_oi) (hts _ cmem_oc) rfl (by rw [hml]; exact hl.1) rfl dX6_init_1 (Nat.le_of_ble_eq_true rfl) (Nat.le_of_ble_eq_true rfl) ?_
  refine W.eq (g2 := F0 m 4 ls []) rfl ?_
  refine lv_aload_n hx hb dX6_init_4 rfl (lv_at hl 0 rfl) ?_
  refine lv_iconst (v := (1 : Int32)) hx hb dX6_init_5 (by decide) ?_
  refine va_put (D := D) (ci := 5) (v := .int (1)) (ty := .int) (C := RX6) (T := TX6) (N := 8) hx hb hts xin_X6 tyX6 tyX6_ok nmX6 hown hK hP hD hS 0 rfl rfl 1 (by decide) (hts (.fieldLink RX6 9 "LeverCurtain$Papers" "limit" "I") (lw_gm 420 (by decide +kernel) rfl)) (fun _ h9 => h9) rfl (by decide +kernel) rfl rfl (Nat.le_of_ble_eq_true rfl) dX6_init_6 (fun H locs hP hD hS => ?_)
  have hP : va_P D vwCl [(a, .inr (5, [.int 0, .int (1), .null, .null, .null, .null, .null, .null]))] H := hP
  have hD : va_D A [(a, .inr (5, [.int 0, .int (1), .null, .null, .null, .null, .null, .null]))] := hD
  refine lv_aload_n hx hb dX6_init_9 rfl (lv_at hl 0 rfl) ?_
  refine lv_bipush (v := (64 : Int32)) hx hb dX6_init_10 (by decide) ?_
  refine xnewa (t := 0) (atype := .int) (ty := .int) (N' := 64) rfl rfl xRA_int hx hb (hts _ cmem_ai) hK hP hD hS hA (fun _ => rfl) (by decide) (by decide) (by decide) (Nat.le_of_ble_eq_true rfl) (Nat.le_of_ble_eq_true rfl) dX6_init_12 (fun q1 H hP hD hS => ?_)
  have hP : va_P D vwCl [(a, .inr (5, [.int 0, .int (1), .null, .null, .null, .null, .null, .null])), (q1, .inl (cA 0, 64, .inl (fun _ => 0)))] H := hP
  have hD : va_D A [(a, .inr (5, [.int 0, .int (1), .null, .null, .null, .null, .null, .null])), (q1, .inl (cA 0, 64, .inl (fun _ => 0)))] := hD
  refine W.widen (k := 1) (n := 64) (Nat.le_of_ble_eq_true rfl) (Nat.le_of_ble_eq_true rfl) ?_
  refine va_putF (D := D) (ci := 5) (v := .ref q1) (ty := .array .int) (C := RX6) (T := TX6) (N := 8) hx hb hts xin_X6 tyX6 tyX6_ok nmX6 hown hK hP hD hS 0 rfl rfl 2 (by decide) (hts (.fieldLink RX6 15 "LeverCurtain$Papers" "nameTexts" "[I") (lw_gm 422 (by decide +kernel) rfl)) (fun _ h9 => h9) rfl hin rfl (by decide +kernel) rfl rfl (Nat.le_of_ble_eq_true rfl) dX6_init_14 (fun H locs hP hD hS => ?_)
  have hP : va_P D vwCl [(a, .inr (5, [.int 0, .int (1), .ref q1, .null, .null, .null, .null, .null])), (q1, .inl (cA 0, 64, .inl (fun _ => 0)))] H := hP
  have hD : va_D A [(a, .inr (5, [.int 0, .int (1), .ref q1, .null, .null, .null, .null, .null])), (q1, .inl (cA 0, 64, .inl (fun _ => 0)))] := hD
  refine lv_aload_n hx hb dX6_init_17 rfl (lv_at hl 0 rfl) ?_
  refine lv_bipush (v := (8 : Int32)) hx hb dX6_init_18 (by decide) ?_
  refine xnewa (t := 0) (atype := .int) (ty := .int) (N' := 8) rfl rfl xRA_int hx hb (hts _ cmem_ai) hK hP hD hS hA (fun _ => rfl) (by decide) (by decide) (by decide) (Nat.le_of_ble_eq_true rfl) (Nat.le_of_ble_eq_true rfl) dX6_init_20 (fun q2 H hP hD hS => ?_)
  have hP : va_P D vwCl [(a, .inr (5, [.int 0, .int (1), .ref q1, .null, .null, .null, .null, .null])), (q1, .inl (cA 0, 64, .inl (fun _ => 0))), (q2, .inl (cA 0, 8, .inl (fun _ => 0)))] H := hP
  have hD : va_D A [(a, .inr (5, [.int 0, .int (1), .ref q1, .null, .null, .null, .null, .null])), (q1, .inl (cA 0, 64, .inl (fun _ => 0))), (q2, .inl (cA 0, 8, .inl (fun _ => 0)))] := hD
  refine W.widen (k := 2) (n := 72) (Nat.le_of_ble_eq_true rfl) (Nat.le_of_ble_eq_true rfl) ?_
  refine va_putF (D := D) (ci := 5) (v := .ref q2) (ty := .array .int) (C := RX6) (T := TX6) (N := 8) hx hb hts xin_X6 tyX6 tyX6_ok nmX6 hown hK hP hD hS 0 rfl rfl 3 (by decide) (hts (.fieldLink RX6 19 "LeverCurtain$Papers" "nameLengths" "[I") (lw_gm 423 (by decide +kernel) rfl)) (fun _ h9 => h9) rfl hin rfl (by decide +kernel) rfl rfl (Nat.le_of_ble_eq_true rfl) dX6_init_22 (fun H locs hP hD hS => ?_)
  have hP : va_P D vwCl [(a, .inr (5, [.int 0, .int (1), .ref q1, .ref q2, .null, .null, .null, .null])), (q1, .inl (cA 0, 64, .inl (fun _ => 0))), (q2, .inl (cA 0, 8, .inl (fun _ => 0)))] H := hP
  have hD : va_D A [(a, .inr (5, [.int 0, .int (1), .ref q1, .ref q2, .null, .null, .null, .null])), (q1, .inl (cA 0, 64, .inl (fun _ => 0))), (q2, .inl (cA 0, 8, .inl (fun _ => 0)))] := hD
  refine lv_aload_n hx hb dX6_init_25 rfl (lv_at hl 0 rfl) ?_
  refine lv_sipush (v := (960 : Int32)) hx hb dX6_init_26 (by decide) ?_
  refine xnewa (t := 0) (atype := .int) (ty := .int) (N' := 960) rfl rfl xRA_int hx hb (hts _ cmem_ai) hK hP hD hS hA (fun _ => rfl) (by decide) (by decide) (by decide) (Nat.le_of_ble_eq_true rfl) (Nat.le_of_ble_eq_true rfl) dX6_init_29 (fun q3 H hP hD hS => ?_)
  have hP : va_P D vwCl [(a, .inr (5, [.int 0, .int (1), .ref q1, .ref q2, .null, .null, .null, .null])), (q1, .inl (cA 0, 64, .inl (fun _ => 0))), (q2, .inl (cA 0, 8, .inl (fun _ => 0))), (q3, .inl (cA 0, 960, .inl (fun _ => 0)))] H := hP
  have hD : va_D A [(a, .inr (5, [.int 0, .int (1), .ref q1, .ref q2, .null, .null, .null, .null])), (q1, .inl (cA 0, 64, .inl (fun _ => 0))), (q2, .inl (cA 0, 8, .inl (fun _ => 0))), (q3, .inl (cA 0, 960, .inl (fun _ => 0)))] := hD
  refine W.widen (k := 3) (n := 1032) (Nat.le_of_ble_eq_true rfl) (Nat.le_of_ble_eq_true rfl) ?_
  refine va_putF (D := D) (ci := 5) (v := .ref q3) (ty := .array .int) (C := RX6) (T := TX6) (N := 8) hx hb hts xin_X6 tyX6 tyX6_ok nmX6 hown hK hP hD hS 0 rfl rfl 4 (by decide) (hts (.fieldLink RX6 22 "LeverCurtain$Papers" "readTexts" "[I") (lw_gm 424 (by decide +kernel) rfl)) (fun _ h9 => h9) rfl hin rfl (by decide +kernel) rfl rfl (Nat.le_of_ble_eq_true rfl) dX6_init_31 (fun H locs hP hD hS => ?_)
  have hP : va_P D vwCl [(a, .inr (5, [.int 0, .int (1), .ref q1, .ref q2, .ref q3, .null, .null, .null])), (q1, .inl (cA 0, 64, .inl (fun _ => 0))), (q2, .inl (cA 0, 8, .inl (fun _ => 0))), (q3, .inl (cA 0, 960, .inl (fun _ => 0)))] H := hP
  have hD : va_D A [(a, .inr (5, [.int 0, .int (1), .ref q1, .ref q2, .ref q3, .null, .null, .null])), (q1, .inl (cA 0, 64, .inl (fun _ => 0))), (q2, .inl (cA 0, 8, .inl (fun _ => 0))), (q3, .inl (cA 0, 960, .inl (fun _ => 0)))] := hD
  refine lv_aload_n hx hb dX6_init_34 rfl (lv_at hl 0 rfl) ?_
  refine lv_bipush (v := (120 : Int32)) hx hb dX6_init_35 (by decide) ?_
  refine xnewa (t := 0) (atype := .int) (ty := .int) (N' := 120) rfl rfl xRA_int hx hb (hts _ cmem_ai) hK hP hD hS hA (fun _ => rfl) (by decide) (by decide) (by decide) (Nat.le_of_ble_eq_true rfl) (Nat.le_of_ble_eq_true rfl) dX6_init_37 (fun q4 H hP hD hS => ?_)
  have hP : va_P D vwCl [(a, .inr (5, [.int 0, .int (1), .ref q1, .ref q2, .ref q3, .null, .null, .null])), (q1, .inl (cA 0, 64, .inl (fun _ => 0))), (q2, .inl (cA 0, 8, .inl (fun _ => 0))), (q3, .inl (cA 0, 960, .inl (fun _ => 0))), (q4, .inl (cA 0, 120, .inl (fun _ => 0)))] H := hP
  have hD : va_D A [(a, .inr (5, [.int 0, .int (1), .ref q1, .ref q2, .ref q3, .null, .null, .null])), (q1, .inl (cA 0, 64, .inl (fun _ => 0))), (q2, .inl (cA 0, 8, .inl (fun _ => 0))), (q3, .inl (cA 0, 960, .inl (fun _ => 0))), (q4, .inl (cA 0, 120, .inl (fun _ => 0)))] := hD
  refine W.widen (k := 4) (n := 1152) (Nat.le_of_ble_eq_true rfl) (Nat.le_of_ble_eq_true rfl) ?_
  refine va_putF (D := D) (ci := 5) (v := .ref q4) (ty := .array .int) (C := RX6) (T := TX6) (N := 8) hx hb hts xin_X6 tyX6 tyX6_ok nmX6 hown hK hP hD hS 0 rfl rfl 5 (by decide) (hts (.fieldLink RX6 25 "LeverCurtain$Papers" "readLengths" "[I") (lw_gm 425 (by decide +kernel) rfl)) (fun _ h9 => h9) rfl hin rfl (by decide +kernel) rfl rfl (Nat.le_of_ble_eq_true rfl) dX6_init_39 (fun H locs hP hD hS => ?_)
  have hP : va_P D vwCl [(a, .inr (5, [.int 0, .int (1), .ref q1, .ref q2, .ref q3, .ref q4, .null, .null])), (q1, .inl (cA 0, 64, .inl (fun _ => 0))), (q2, .inl (cA 0, 8, .inl (fun _ => 0))), (q3, .inl (cA 0, 960, .inl (fun _ => 0))), (q4, .inl (cA 0, 120, .inl (fun _ => 0)))] H := hP
  have hD : va_D A [(a, .inr (5, [.int 0, .int (1), .ref q1, .ref q2, .ref q3, .ref q4, .null, .null])), (q1, .inl (cA 0, 64, .inl (fun _ => 0))), (q2, .inl (cA 0, 8, .inl (fun _ => 0))), (q3, .inl (cA 0, 960, .inl (fun _ => 0))), (q4, .inl (cA 0, 120, .inl (fun _ => 0)))] := hD
  refine lv_aload_n hx hb dX6_init_42 rfl (lv_at hl 0 rfl) ?_
  refine lv_sipush (v := (960 : Int32)) hx hb dX6_init_43 (by decide) ?_
  refine xnewa (t := 0) (atype := .int) (ty := .int) (N' := 960) rfl rfl xRA_int hx hb (hts _ cmem_ai) hK hP hD hS hA (fun _ => rfl) (by decide) (by decide) (by decide) (Nat.le_of_ble_eq_true rfl) (Nat.le_of_ble_eq_true rfl) dX6_init_46 (fun q5 H hP hD hS => ?_)
  have hP : va_P D vwCl [(a, .inr (5, [.int 0, .int (1), .ref q1, .ref q2, .ref q3, .ref q4, .null, .null])), (q1, .inl (cA 0, 64, .inl (fun _ => 0))), (q2, .inl (cA 0, 8, .inl (fun _ => 0))), (q3, .inl (cA 0, 960, .inl (fun _ => 0))), (q4, .inl (cA 0, 120, .inl (fun _ => 0))), (q5, .inl (cA 0, 960, .inl (fun _ => 0)))] H := hP
  have hD : va_D A [(a, .inr (5, [.int 0, .int (1), .ref q1, .ref q2, .ref q3, .ref q4, .null, .null])), (q1, .inl (cA 0, 64, .inl (fun _ => 0))), (q2, .inl (cA 0, 8, .inl (fun _ => 0))), (q3, .inl (cA 0, 960, .inl (fun _ => 0))), (q4, .inl (cA 0, 120, .inl (fun _ => 0))), (q5, .inl (cA 0, 960, .inl (fun _ => 0)))] := hD
  refine W.widen (k := 5) (n := 2112) (Nat.le_of_ble_eq_true rfl) (Nat.le_of_ble_eq_true rfl) ?_
  refine va_putF (D := D) (ci := 5) (v := .ref q5) (ty := .array .int) (C := RX6) (T := TX6) (N := 8) hx hb hts xin_X6 tyX6 tyX6_ok nmX6 hown hK hP hD hS 0 rfl rfl 6 (by decide) (hts (.fieldLink RX6 28 "LeverCurtain$Papers" "fars" "[I") (lw_gm 426 (by decide +kernel) rfl)) (fun _ h9 => h9) rfl hin rfl (by decide +kernel) rfl rfl (Nat.le_of_ble_eq_true rfl) dX6_init_48 (fun H locs hP hD hS => ?_)
  have hP : va_P D vwCl [(a, .inr (5, [.int 0, .int (1), .ref q1, .ref q2, .ref q3, .ref q4, .ref q5, .null])), (q1, .inl (cA 0, 64, .inl (fun _ => 0))), (q2, .inl (cA 0, 8, .inl (fun _ => 0))), (q3, .inl (cA 0, 960, .inl (fun _ => 0))), (q4, .inl (cA 0, 120, .inl (fun _ => 0))), (q5, .inl (cA 0, 960, .inl (fun _ => 0)))] H := hP
  have hD : va_D A [(a, .inr (5, [.int 0, .int (1), .ref q1, .ref q2, .ref q3, .ref q4, .ref q5, .null])), (q1, .inl (cA 0, 64, .inl (fun _ => 0))), (q2, .inl (cA 0, 8, .inl (fun _ => 0))), (q3, .inl (cA 0, 960, .inl (fun _ => 0))), (q4, .inl (cA 0, 120, .inl (fun _ => 0))), (q5, .inl (cA 0, 960, .inl (fun _ => 0)))] := hD
  refine lv_aload_n hx hb dX6_init_51 rfl (lv_at hl 0 rfl) ?_
  refine lv_bipush (v := (9 : Int32)) hx hb dX6_init_52 (by decide) ?_
  refine xnewa (t := 0) (atype := .int) (ty := .int) (N' := 9) rfl rfl xRA_int hx hb (hts _ cmem_ai) hK hP hD hS hA (fun _ => rfl) (by decide) (by decide) (by decide) (Nat.le_of_ble_eq_true rfl) (Nat.le_of_ble_eq_true rfl) dX6_init_54 (fun q6 H hP hD hS => ?_)
  have hP : va_P D vwCl [(a, .inr (5, [.int 0, .int (1), .ref q1, .ref q2, .ref q3, .ref q4, .ref q5, .null])), (q1, .inl (cA 0, 64, .inl (fun _ => 0))), (q2, .inl (cA 0, 8, .inl (fun _ => 0))), (q3, .inl (cA 0, 960, .inl (fun _ => 0))), (q4, .inl (cA 0, 120, .inl (fun _ => 0))), (q5, .inl (cA 0, 960, .inl (fun _ => 0))), (q6, .inl (cA 0, 9, .inl (fun _ => 0)))] H := hP
  have hD : va_D A [(a, .inr (5, [.int 0, .int (1), .ref q1, .ref q2, .ref q3, .ref q4, .ref q5, .null])), (q1, .inl (cA 0, 64, .inl (fun _ => 0))), (q2, .inl (cA 0, 8, .inl (fun _ => 0))), (q3, .inl (cA 0, 960, .inl (fun _ => 0))), (q4, .inl (cA 0, 120, .inl (fun _ => 0))), (q5, .inl (cA 0, 960, .inl (fun _ => 0))), (q6, .inl (cA 0, 9, .inl (fun _ => 0)))] := hD
  refine W.widen (k := 6) (n := 2121) (Nat.le_of_ble_eq_true rfl) (Nat.le_of_ble_eq_true rfl) ?_
  refine va_putF (D := D) (ci := 5) (v := .ref q6) (ty := .array .int) (C := RX6) (T := TX6) (N := 8) hx hb hts xin_X6 tyX6 tyX6_ok nmX6 hown hK hP hD hS 0 rfl rfl 7 (by decide) (hts (.fieldLink RX6 31 "LeverCurtain$Papers" "above" "[I") (lw_gm 427 (by decide +kernel) rfl)) (fun _ h9 => h9) rfl hin rfl (by decide +kernel) rfl rfl (Nat.le_of_ble_eq_true rfl) dX6_init_56 (fun H locs hP hD hS => ?_)
  have hP : va_P D vwCl [(a, .inr (5, [.int 0, .int (1), .ref q1, .ref q2, .ref q3, .ref q4, .ref q5, .ref q6])), (q1, .inl (cA 0, 64, .inl (fun _ => 0))), (q2, .inl (cA 0, 8, .inl (fun _ => 0))), (q3, .inl (cA 0, 960, .inl (fun _ => 0))), (q4, .inl (cA 0, 120, .inl (fun _ => 0))), (q5, .inl (cA 0, 960, .inl (fun _ => 0))), (q6, .inl (cA 0, 9, .inl (fun _ => 0)))] H := hP
  have hD : va_D A [(a, .inr (5, [.int 0, .int (1), .ref q1, .ref q2, .ref q3, .ref q4, .ref q5, .ref q6])), (q1, .inl (cA 0, 64, .inl (fun _ => 0))), (q2, .inl (cA 0, 8, .inl (fun _ => 0))), (q3, .inl (cA 0, 960, .inl (fun _ => 0))), (q4, .inl (cA 0, 120, .inl (fun _ => 0))), (q5, .inl (cA 0, 960, .inl (fun _ => 0))), (q6, .inl (cA 0, 9, .inl (fun _ => 0)))] := hD
  have hP9 := hP.sub (ws' := [(a, .inr (5, [.int 0, .int (1), .ref q1, .ref q2, .ref q3, .ref q4, .ref q5, .ref q6])), (q1, .inl (cA 0, 64, .inl (fun _ => 0))), (q2, .inl (cA 0, 8, .inl (fun _ => 0))), (q3, .inl (cA 0, 960, .inl (fun _ => 0))), (q4, .inl (cA 0, 120, .inl (fun _ => 0))), (q5, .inl (cA 0, 960, .inl (fun _ => 0))), (q6, .inl (cA 0, 9, .inl (fun _ => 0)))]) [0, 1, 2, 3, 4, 5, 6] rfl
  have hD9 := hD.sub (ws' := [(a, .inr (5, [.int 0, .int (1), .ref q1, .ref q2, .ref q3, .ref q4, .ref q5, .ref q6])), (q1, .inl (cA 0, 64, .inl (fun _ => 0))), (q2, .inl (cA 0, 8, .inl (fun _ => 0))), (q3, .inl (cA 0, 960, .inl (fun _ => 0))), (q4, .inl (cA 0, 120, .inl (fun _ => 0))), (q5, .inl (cA 0, 960, .inl (fun _ => 0))), (q6, .inl (cA 0, 9, .inl (fun _ => 0)))]) [0, 1, 2, 3, 4, 5, 6] (by decide) rfl
  exact W.vret hx hb hr (fun t ht hW => ⟨⟨fun k => ([q1, q2, q3, q4, q5, q6] : List Nat).getD k 0, rfl, trivial, by rw [ht]; exact hP9, va_K.moved hW.alike hK, hD9⟩, hS.F ht⟩) hS.2.2 dX6_init_59
set_option maxHeartbeats 8000000 in
set_option maxRecDepth 100000 in
theorem c_X7_init (l : Launch) (D : va_G) (cA : Nat → ClassId) (sa : Nat → Nat) (a sz : Nat)  : Met l yX7_init (xws yX7_init cX7_init 1 none) ({ frames := 8, cells := 4, slots := 366, locals := 512 }) (va_Pc [.ref a] (fun U => U.heap.size = sz ∧ va_P D vwCl [(a, .inr (6, [.null, .null, .null, .null, .int 0, .int 0]))] U.heap ∧ va_K D vwCl (xTy cA) U ∧ va_D (fun _ => True) [(a, .inr (6, [.null, .null, .null, .null, .int 0, .int 0]))] ∧ yZ (va_A [(a, .inr (6, [.null, .null, .null, .null, .int 0, .int 0]))] sz) sa U)) (va_Qv (fun _ : Nat → Nat => True) (fun u t => va_P D vwCl [(a, .inr (6, [.ref (u 0), .ref (u 1), .ref (u 2), .ref (u 3), .int 0, .int 0])), ((u 0), .inl (cA 0, 6, .inl (fun _ => 0))), ((u 1), .inl (cA 0, 120, .inl (fun _ => 0))), ((u 2), .inl (cA 0, 120, .inl (fun _ => 0))), ((u 3), .inl (cA 0, 120, .inl (fun _ => 0)))] t.heap ∧ va_K D vwCl (xTy cA) t ∧ va_D (va_A [(a, .inr (6, [.null, .null, .null, .null, .int 0, .int 0]))] sz) [(a, .inr (6, [.ref (u 0), .ref (u 1), .ref (u 2), .ref (u 3), .int 0, .int 0])), ((u 0), .inl (cA 0, 6, .inl (fun _ => 0))), ((u 1), .inl (cA 0, 120, .inl (fun _ => 0))), ((u 2), .inl (cA 0, 120, .inl (fun _ => 0))), ((u 3), .inl (cA 0, 120, .inl (fun _ => 0)))]) (va_A [(a, .inr (6, [.null, .null, .null, .null, .int 0, .int 0]))] sz)) 4 366 (va_A [(a, .inr (6, [.null, .null, .null, .null, .int 0, .int 0]))] sz) := by
  refine Met.ofW (cc := cX7_init) (maxL := 1) (ret := none) (by decide +kernel) rfl ?_
  intro p e s m args below meth c s₁ B hml hv
  obtain ⟨rfl, hsz, hP, hK, hD0, hZ⟩ := hv
  have hx := B.exec
  have hb := B.bytes
  have hr := B.returns
  have hts0 := atoms_spec (ws := xws yX7_init cX7_init 1 none) B.pre
  have hts : ∀ w ∈ lw_g, w.before _ s = true := fun w hw => hts0 w (List.mem_cons_of_mem _ hw)
  have hown : s.vm.findClass RX7 = some m.cls := findClass_of_methodNamed B.named
  have hlocks := B.notSynchronized
  have hin : meth.name = "<init>" := (name_of_methodNamed B.named B.method).1
  subst hsz
  have hD := hD0.self (sz := s.heap.size)
  generalize hAe : va_A [(a, .inr (6, [.null, .null, .null, .null, .int 0, .int 0]))] s.heap.size = A at hD hZ ⊢
  have hA : ∀ q : Nat, s.heap.size ≤ q → A q := fun q h => by rw [← hAe]; exact Or.inr h
  have hS : va_S A s.heap s.heap [] := va_S.rf
  have hl := lv_entry ([.ref a]) (n := 1) (Nat.le_of_ble_eq_true rfl)
  rw [lg_entry_eq]
  generalize (lg_sl ([.ref a]) ++ List.replicate (1 - (lg_sl ([.ref a])).length) Slot.unset).toArray = ls at hl ⊢
  have hl : lv_has ls 1 [(0, .ref a)] := hl
  refine lv_aload_n hx hb dX7_init_0 rfl (lv_at hl 0 rfl) ?_
  refine W.objInit hx hb hown (hts (.methodLink RX7 3 objectInit) (lw_gm 450 (by decide +kernel) rfl)) (hts _ cmem_oi) (hts _ cmem_oc) rfl (by rw [hml]; exact hl.1) rfl dX7_init_1 (Nat.le_of_ble_eq_true rfl) (Nat.le_of_ble_eq_true rfl) ?_
  refine W.eq (g2 := F0 m 4 ls []) rfl ?_
  refine lv_aload_n hx hb dX7_init_4 rfl (lv_at hl 0 rfl) ?_
  refine lv_bipush (v := (6 : Int32)) hx hb dX7_init_5 (by decide) ?_
  refine xnewa (t := 0) (atype := .int) (ty := .int) (N' := 6) rfl rfl xRA_int hx hb (hts _ cmem_ai) hK hP hD hS hA (fun _ => rfl) (by decide) (by decide) (by decide) (Nat.le_of_ble_eq_true rfl) (Nat.le_of_ble_eq_true rfl) dX7_init_7 (fun q1 H hP hD hS => ?_)
  have hP : va_P D vwCl [(a, .inr (6, [.null, .null, .null, .null, .int 0, .int 0])), (q1, .inl (cA 0, 6, .inl (fun _ => 0)))] H := hP
  have hD : va_D A [(a, .inr (6, [.null, .null, .null, .null, .int 0, .int 0])), (q1, .inl (cA 0, 6, .inl (fun _ => 0)))] := hD
  refine W.widen (k := 1) (n := 6) (Nat.le_of_ble_eq_true rfl) (Nat.le_of_ble_eq_true rfl) ?_
  refine va_putF (D := D) (ci := 6) (v := .ref q1) (ty := .array .int) (C := RX7) (T := TX7) (N := 6) hx hb hts xin_X7 tyX7 tyX7_ok nmX7 hown hK hP hD hS 0 rfl rfl 0 (by decide) (hts (.fieldLink RX7 11 "LeverCurtain$Seals" "events" "[I") (lw_gm 451 (by decide +kernel) rfl)) (fun _ h9 => h9) rfl hin rfl (by decide +kernel) rfl rfl (Nat.le_of_ble_eq_true rfl) dX7_init_9 (fun H locs hP hD hS => ?_)
  have hP : va_P D vwCl [(a, .inr (6, [.ref q1, .null, .null, .null, .int 0, .int 0])), (q1, .inl (cA 0, 6, .inl (fun _ => 0)))] H := hP
  have hD : va_D A [(a, .inr (6, [.ref q1, .null, .null, .null, .int 0, .int 0])), (q1, .inl (cA 0, 6, .inl (fun _ => 0)))] := hD
  refine lv_aload_n hx hb dX7_init_12 rfl (lv_at hl 0 rfl) ?_
  refine lv_bipush (v := (120 : Int32)) hx hb dX7_init_13 (by decide) ?_
  refine xnewa (t := 0) (atype := .int) (ty := .int) (N' := 120) rfl rfl xRA_int hx hb (hts _ cmem_ai) hK hP hD hS hA (fun _ => rfl) (by decide) (by decide) (by decide) (Nat.le_of_ble_eq_true rfl) (Nat.le_of_ble_eq_true rfl) dX7_init_15 (fun q2 H hP hD hS => ?_)
  have hP : va_P D vwCl [(a, .inr (6, [.ref q1, .null, .null, .null, .int 0, .int 0])), (q1, .inl (cA 0, 6, .inl (fun _ => 0))), (q2, .inl (cA 0, 120, .inl (fun _ => 0)))] H := hP
  have hD : va_D A [(a, .inr (6, [.ref q1, .null, .null, .null, .int 0, .int 0])), (q1, .inl (cA 0, 6, .inl (fun _ => 0))), (q2, .inl (cA 0, 120, .inl (fun _ => 0)))] := hD
  refine W.widen (k := 2) (n := 126) (Nat.le_of_ble_eq_true rfl) (Nat.le_of_ble_eq_true rfl) ?_
  refine va_putF (D := D) (ci := 6) (v := .ref q2) (ty := .array .int) (C := RX7) (T := TX7) (N := 6) hx hb hts xin_X7 tyX7 tyX7_ok nmX7 hown hK hP hD hS 0 rfl rfl 1 (by decide) (hts (.fieldLink RX7 17 "LeverCurtain$Seals" "times" "[I") (lw_gm 452 (by decide +kernel) rfl)) (fun _ h9 => h9) rfl hin rfl (by decide +kernel) rfl rfl (Nat.le_of_ble_eq_true rfl) dX7_init_17 (fun H locs hP hD hS => ?_)
  have hP : va_P D vwCl [(a, .inr (6, [.ref q1, .ref q2, .null, .null, .int 0, .int 0])), (q1, .inl (cA 0, 6, .inl (fun _ => 0))), (q2, .inl (cA 0, 120, .inl (fun _ => 0)))] H := hP
  have hD : va_D A [(a, .inr (6, [.ref q1, .ref q2, .null, .null, .int 0, .int 0])), (q1, .inl (cA 0, 6, .inl (fun _ => 0))), (q2, .inl (cA 0, 120, .inl (fun _ => 0)))] := hD
  refine lv_aload_n hx hb dX7_init_20 rfl (lv_at hl 0 rfl) ?_
  refine lv_bipush (v := (120 : Int32)) hx hb dX7_init_21 (by decide) ?_
  refine xnewa (t := 0) (atype := .int) (ty := .int) (N' := 120) rfl rfl xRA_int hx hb (hts _ cmem_ai) hK hP hD hS hA (fun _ => rfl) (by decide) (by decide) (by decide) (Nat.le_of_ble_eq_true rfl) (Nat.le_of_ble_eq_true rfl) dX7_init_23 (fun q3 H hP hD hS => ?_)
  have hP : va_P D vwCl [(a, .inr (6, [.ref q1, .ref q2, .null, .null, .int 0, .int 0])), (q1, .inl (cA 0, 6, .inl (fun _ => 0))), (q2, .inl (cA 0, 120, .inl (fun _ => 0))), (q3, .inl (cA 0, 120, .inl (fun _ => 0)))] H := hP
  have hD : va_D A [(a, .inr (6, [.ref q1, .ref q2, .null, .null, .int 0, .int 0])), (q1, .inl (cA 0, 6, .inl (fun _ => 0))), (q2, .inl (cA 0, 120, .inl (fun _ => 0))), (q3, .inl (cA 0, 120, .inl (fun _ => 0)))] := hD
  refine W.widen (k := 3) (n := 246) (Nat.le_of_ble_eq_true rfl) (Nat.le_of_ble_eq_true rfl) ?_
  refine va_putF (D := D) (ci := 6) (v := .ref q3) (ty := .array .int) (C := RX7) (T := TX7) (N := 6) hx hb hts xin_X7 tyX7 tyX7_ok nmX7 hown hK hP hD hS 0 rfl rfl 2 (by decide) (hts (.fieldLink RX7 20 "LeverCurtain$Seals" "kinds" "[I") (lw_gm 453 (by decide +kernel) rfl)) (fun _ h9 => h9) rfl hin rfl (by decide +kernel) rfl rfl (Nat.le_of_ble_eq_true rfl) dX7_init_25 (fun H locs hP hD hS => ?_)
  have hP : va_P D vwCl [(a, .inr (6, [.ref q1, .ref q2, .ref q3, .null, .int 0, .int 0])), (q1, .inl (cA 0, 6, .inl (fun _ => 0))), (q2, .inl (cA 0, 120, .inl (fun _ => 0))), (q3, .inl (cA 0, 120, .inl (fun _ => 0)))] H := hP
  have hD : va_D A [(a, .inr (6, [.ref q1, .ref q2, .ref q3, .null, .int 0, .int 0])), (q1, .inl (cA 0, 6, .inl (fun _ => 0))), (q2, .inl (cA 0, 120, .inl (fun _ => 0))), (q3, .inl (cA 0, 120, .inl (fun _ => 0)))] := hD
  refine lv_aload_n hx hb dX7_init_28 rfl (lv_at hl 0 rfl) ?_
  refine lv_bipush (v := (120 : Int32)) hx hb dX7_init_29 (by decide) ?_
  refine xnewa (t := 0) (atype := .int) (ty := .int) (N' := 120) rfl rfl xRA_int hx hb (hts _ cmem_ai) hK hP hD hS hA (fun _ => rfl) (by decide) (by decide) (by decide) (Nat.le_of_ble_eq_true rfl) (Nat.le_of_ble_eq_true rfl) dX7_init_31 (fun q4 H hP hD hS => ?_)
  have hP : va_P D vwCl [(a, .inr (6, [.ref q1, .ref q2, .ref q3, .null, .int 0, .int 0])), (q1, .inl (cA 0, 6, .inl (fun _ => 0))), (q2, .inl (cA 0, 120, .inl (fun _ => 0))), (q3, .inl (cA 0, 120, .inl (fun _ => 0))), (q4, .inl (cA 0, 120, .inl (fun _ => 0)))] H := hP
  have hD : va_D A [(a, .inr (6, [.ref q1, .ref q2, .ref q3, .null, .int 0, .int 0])), (q1, .inl (cA 0, 6, .inl (fun _ => 0))), (q2, .inl (cA 0, 120, .inl (fun _ => 0))), (q3, .inl (cA 0, 120, .inl (fun _ => 0))), (q4, .inl (cA 0, 120, .inl (fun _ => 0)))] := hD
  refine W.widen (k := 4) (n := 366) (Nat.le_of_ble_eq_true rfl) (Nat.le_of_ble_eq_true rfl) ?_
  refine va_putF (D := D) (ci := 6) (v := .ref q4) (ty := .array .int) (C := RX7) (T := TX7) (N := 6) hx hb hts xin_X7 tyX7 tyX7_ok nmX7 hown hK hP hD hS 0 rfl rfl 3 (by decide) (hts (.fieldLink RX7 23 "LeverCurtain$Seals" "values" "[I") (lw_gm 454 (by decide +kernel) rfl)) (fun _ h9 => h9) rfl hin rfl (by decide +kernel) rfl rfl (Nat.le_of_ble_eq_true rfl) dX7_init_33 (fun H locs hP hD hS => ?_)
  have hP : va_P D vwCl [(a, .inr (6, [.ref q1, .ref q2, .ref q3, .ref q4, .int 0, .int 0])), (q1, .inl (cA 0, 6, .inl (fun _ => 0))), (q2, .inl (cA 0, 120, .inl (fun _ => 0))), (q3, .inl (cA 0, 120, .inl (fun _ => 0))), (q4, .inl (cA 0, 120, .inl (fun _ => 0)))] H := hP
  have hD : va_D A [(a, .inr (6, [.ref q1, .ref q2, .ref q3, .ref q4, .int 0, .int 0])), (q1, .inl (cA 0, 6, .inl (fun _ => 0))), (q2, .inl (cA 0, 120, .inl (fun _ => 0))), (q3, .inl (cA 0, 120, .inl (fun _ => 0))), (q4, .inl (cA 0, 120, .inl (fun _ => 0)))] := hD
  have hP9 := hP.sub (ws' := [(a, .inr (6, [.ref q1, .ref q2, .ref q3, .ref q4, .int 0, .int 0])), (q1, .inl (cA 0, 6, .inl (fun _ => 0))), (q2, .inl (cA 0, 120, .inl (fun _ => 0))), (q3, .inl (cA 0, 120, .inl (fun _ => 0))), (q4, .inl (cA 0, 120, .inl (fun _ => 0)))]) [0, 1, 2, 3, 4] rfl
  have hD9 := hD.sub (ws' := [(a, .inr (6, [.ref q1, .ref q2, .ref q3, .ref q4, .int 0, .int 0])), (q1, .inl (cA 0, 6, .inl (fun _ => 0))), (q2, .inl (cA 0, 120, .inl (fun _ => 0))), (q3, .inl (cA 0, 120, .inl (fun _ => 0))), (q4, .inl (cA 0, 120, .inl (fun _ => 0)))]) [0, 1, 2, 3, 4] (by decide) rfl
  exact W.vret hx hb hr (fun t ht hW => ⟨⟨fun k => ([q1, q2, q3, q4] : List Nat).getD k 0, rfl, trivial, by rw [ht]; exact hP9, va_K.moved hW.alike hK, hD9⟩, hS.F ht⟩) hS.2.2 dX7_init_36
set_option maxHeartbeats 8000000 in
set_option maxRecDepth 100000 in
theorem c_X4_init (l : Launch) (D : va_G) (cA : Nat → ClassId) (sa : Nat → Nat) (a sz : Nat)  : Met l yX4_init (xws yX4_init cX4_init 1 none) ({ frames := 12, cells := 5, slots := 614, locals := 768 }) (va_Pc [.ref a] (fun U => U.heap.size = sz ∧ va_P D vwCl [(a, .inr (3, [.int 0, .int 0, .null, .null, .null]))] U.heap ∧ va_K D vwCl (xTy cA) U ∧ va_D (fun _ => True) [(a, .inr (3, [.int 0, .int 0, .null, .null, .null]))] ∧ yZ (va_A [(a, .inr (3, [.int 0, .int 0, .null, .null, .null]))] sz) sa U)) (va_Qv (fun _ : Nat → Nat => True) (fun u t => va_P D vwCl [(a, .inr (3, [.int 0, .int (-1), .ref (u 0), .ref (u 1), .ref (u 2)])), ((u 0), .inl (cA 0, 480, .inl (fun _ => 0))), ((u 1), .inl (cA 0, 4, .inl (fun _ => 0))), ((u 2), .inr (2, [.int (-1), .ref (u 3), .ref (u 4), .int 0, .int 0])), ((u 3), .inl (cA 0, 120, .inl (fun _ => 0))), ((u 4), .inl (cA 0, 5, .inl (fun _ => 0)))] t.heap ∧ va_K D vwCl (xTy cA) t ∧ va_D (va_A [(a, .inr (3, [.int 0, .int 0, .null, .null, .null]))] sz) [(a, .inr (3, [.int 0, .int (-1), .ref (u 0), .ref (u 1), .ref (u 2)])), ((u 0), .inl (cA 0, 480, .inl (fun _ => 0))), ((u 1), .inl (cA 0, 4, .inl (fun _ => 0))), ((u 2), .inr (2, [.int (-1), .ref (u 3), .ref (u 4), .int 0, .int 0])), ((u 3), .inl (cA 0, 120, .inl (fun _ => 0))), ((u 4), .inl (cA 0, 5, .inl (fun _ => 0)))]) (va_A [(a, .inr (3, [.int 0, .int 0, .null, .null, .null]))] sz)) 5 614 (va_A [(a, .inr (3, [.int 0, .int 0, .null, .null, .null]))] sz) := by
  refine Met.ofW (cc := cX4_init) (maxL := 1) (ret := none) (by decide +kernel) rfl ?_
  intro p e s m args below meth c s₁ B hml hv
  obtain ⟨rfl, hsz, hP, hK, hD0, hZ⟩ := hv
  have hx := B.exec
  have hb := B.bytes
  have hr := B.returns
  have hts0 := atoms_spec (ws := xws yX4_init cX4_init 1 none) B.pre
  have hts : ∀ w ∈ lw_g, w.before _ s = true := fun w hw => hts0 w (List.mem_cons_of_mem _ hw)
  have hown : s.vm.findClass RX4 = some m.cls := findClass_of_methodNamed B.named
  have hlocks := B.notSynchronized
  have hin : meth.name = "<init>" := (name_of_methodNamed B.named B.method).1
  subst hsz
  have hD := hD0.self (sz := s.heap.size)
  generalize hAe : va_A [(a, .inr (3, [.int 0, .int 0, .null, .null, .null]))] s.heap.size = A at hD hZ ⊢
  have hA : ∀ q : Nat, s.heap.size ≤ q → A q := fun q h => by rw [← hAe]; exact Or.inr h
  have hS : va_S A s.heap s.heap [] := va_S.rf
  have hl := lv_entry ([.ref a]) (n := 1) (Nat.le_of_ble_eq_true rfl)
  rw [lg_entry_eq]
  generalize (lg_sl ([.ref a]) ++ List.replicate (1 - (lg_sl ([.ref a])).length) Slot.unset).toArray = ls at hl ⊢
  have hl : lv_has ls 1 [(0, .ref a)] := hl
  refine lv_aload_n hx hb dX4_init_0 rfl (lv_at hl 0 rfl) ?_
  refine W.objInit hx hb hown (hts (.methodLink RX4 3 objectInit) (lw_gm 224 (by decide +kernel) rfl)) (hts _ cmem_oi) (hts _ cmem_oc) rfl (by rw [hml]; exact hl.1) rfl dX4_init_1 (Nat.le_of_ble_eq_true rfl) (Nat.le_of_ble_eq_true rfl) ?_
  refine W.eq (g2 := F0 m 4 ls []) rfl ?_
  refine lv_aload_n hx hb dX4_init_4 rfl (lv_at hl 0 rfl) ?_
  refine lv_iconst (v := (-1 : Int32)) hx hb dX4_init_5 (by decide) ?_
  refine va_put (D := D) (ci := 3) (v := .int (-1)) (ty := .int) (C := RX4) (T := TX4) (N := 5) hx hb hts xin_X4 tyX4 tyX4_ok nmX4 hown hK hP hD hS 0 rfl rfl 1 (by decide) (hts (.fieldLink RX4 9 "LeverCurtain$Laws" "inUse" "I") (lw_gm 250 (by decide +kernel) rfl)) (fun _ h9 => h9) rfl (by decide +kernel) rfl rfl (Nat.le_of_ble_eq_true rfl) dX4_init_6 (fun H locs hP hD hS => ?_)
  have hP : va_P D vwCl [(a, .inr (3, [.int 0, .int (-1), .null, .null, .null]))] H := hP
  have hD : va_D A [(a, .inr (3, [.int 0, .int (-1), .null, .null, .null]))] := hD
  refine lv_aload_n hx hb dX4_init_9 rfl (lv_at hl 0 rfl) ?_
  refine lv_sipush (v := (480 : Int32)) hx hb dX4_init_10 (by decide) ?_
  refine xnewa (t := 0) (atype := .int) (ty := .int) (N' := 480) rfl rfl xRA_int hx hb (hts _ cmem_ai) hK hP hD hS hA (fun _ => rfl) (by decide) (by decide) (by decide) (Nat.le_of_ble_eq_true rfl) (Nat.le_of_ble_eq_true rfl) dX4_init_13 (fun q1 H hP hD hS => ?_)
  have hP : va_P D vwCl [(a, .inr (3, [.int 0, .int (-1), .null, .null, .null])), (q1, .inl (cA 0, 480, .inl (fun _ => 0)))] H := hP
  have hD : va_D A [(a, .inr (3, [.int 0, .int (-1), .null, .null, .null])), (q1, .inl (cA 0, 480, .inl (fun _ => 0)))] := hD
  refine W.widen (k := 1) (n := 480) (Nat.le_of_ble_eq_true rfl) (Nat.le_of_ble_eq_true rfl) ?_
  refine va_putF (D := D) (ci := 3) (v := .ref q1) (ty := .array .int) (C := RX4) (T := TX4) (N := 5) hx hb hts xin_X4 tyX4 tyX4_ok nmX4 hown hK hP hD hS 0 rfl rfl 2 (by decide) (hts (.fieldLink RX4 17 "LeverCurtain$Laws" "texts" "[I") (lw_gm 252 (by decide +kernel) rfl)) (fun _ h9 => h9) rfl hin rfl (by decide +kernel) rfl rfl (Nat.le_of_ble_eq_true rfl) dX4_init_15 (fun H locs hP hD hS => ?_)
  have hP : va_P D vwCl [(a, .inr (3, [.int 0, .int (-1), .ref q1, .null, .null])), (q1, .inl (cA 0, 480, .inl (fun _ => 0)))] H := hP
  have hD : va_D A [(a, .inr (3, [.int 0, .int (-1), .ref q1, .null, .null])), (q1, .inl (cA 0, 480, .inl (fun _ => 0)))] := hD
  refine lv_aload_n hx hb dX4_init_18 rfl (lv_at hl 0 rfl) ?_
  refine lv_iconst (v := (4 : Int32)) hx hb dX4_init_19 (by decide) ?_
  refine xnewa (t := 0) (atype := .int) (ty := .int) (N' := 4) rfl rfl xRA_int hx hb (hts _ cmem_ai) hK hP hD hS hA (fun _ => rfl) (by decide) (by decide) (by decide) (Nat.le_of_ble_eq_true rfl) (Nat.le_of_ble_eq_true rfl) dX4_init_20 (fun q2 H hP hD hS => ?_)
  have hP : va_P D vwCl [(a, .inr (3, [.int 0, .int (-1), .ref q1, .null, .null])), (q1, .inl (cA 0, 480, .inl (fun _ => 0))), (q2, .inl (cA 0, 4, .inl (fun _ => 0)))] H := hP
  have hD : va_D A [(a, .inr (3, [.int 0, .int (-1), .ref q1, .null, .null])), (q1, .inl (cA 0, 480, .inl (fun _ => 0))), (q2, .inl (cA 0, 4, .inl (fun _ => 0)))] := hD
  refine W.widen (k := 2) (n := 484) (Nat.le_of_ble_eq_true rfl) (Nat.le_of_ble_eq_true rfl) ?_
  refine va_putF (D := D) (ci := 3) (v := .ref q2) (ty := .array .int) (C := RX4) (T := TX4) (N := 5) hx hb hts xin_X4 tyX4 tyX4_ok nmX4 hown hK hP hD hS 0 rfl rfl 3 (by decide) (hts (.fieldLink RX4 21 "LeverCurtain$Laws" "lengths" "[I") (lw_gm 253 (by decide +kernel) rfl)) (fun _ h9 => h9) rfl hin rfl (by decide +kernel) rfl rfl (Nat.le_of_ble_eq_true rfl) dX4_init_22 (fun H locs hP hD hS => ?_)
  have hP : va_P D vwCl [(a, .inr (3, [.int 0, .int (-1), .ref q1, .ref q2, .null])), (q1, .inl (cA 0, 480, .inl (fun _ => 0))), (q2, .inl (cA 0, 4, .inl (fun _ => 0)))] H := hP
  have hD : va_D A [(a, .inr (3, [.int 0, .int (-1), .ref q1, .ref q2, .null])), (q1, .inl (cA 0, 480, .inl (fun _ => 0))), (q2, .inl (cA 0, 4, .inl (fun _ => 0)))] := hD
  refine lv_aload_n hx hb dX4_init_25 rfl (lv_at hl 0 rfl) ?_
  refine va_new (ci := 2) (fs := [.int 0, .null, .null, .int 0, .int 0]) (C := RX3) (T := TX3) (N := 5) hx hb hts xin_X3 tyX3 tyX3_ok hown (hts (.classLink RX4 24 RX3) (lw_gm 225 (by decide +kernel) rfl)) (hts (.instantiable RX3 5) (lw_gm 226 (by decide +kernel) rfl)) (hts (.initialized RX3) (lw_gm 110 (by decide +kernel) rfl)) hK hP hD hS hA rfl (fun j hj => by rcases (show j = 0 ∨ j = 1 ∨ j = 2 ∨ j = 3 ∨ j = 4 by omega) with rfl | rfl | rfl | rfl | rfl <;> rfl) (Nat.le_of_ble_eq_true rfl) (Nat.le_of_ble_eq_true rfl) dX4_init_26 (fun q3 H hP hD hS => ?_)
  have hP : va_P D vwCl [(a, .inr (3, [.int 0, .int (-1), .ref q1, .ref q2, .null])), (q1, .inl (cA 0, 480, .inl (fun _ => 0))), (q2, .inl (cA 0, 4, .inl (fun _ => 0))), (q3, .inr (2, [.int 0, .null, .null, .int 0, .int 0]))] H := hP
  have hD : va_D A [(a, .inr (3, [.int 0, .int (-1), .ref q1, .ref q2, .null])), (q1, .inl (cA 0, 480, .inl (fun _ => 0))), (q2, .inl (cA 0, 4, .inl (fun _ => 0))), (q3, .inr (2, [.int 0, .null, .null, .int 0, .int 0]))] := hD
  refine W.widen (k := 3) (n := 489) (Nat.le_of_ble_eq_true rfl) (Nat.le_of_ble_eq_true rfl) ?_
  refine lv_dup hx hb dX4_init_29 rfl ?_
  have hPc := hP.sub (ws' := [(q3, .inr (2, [.int 0, .null, .null, .int 0, .int 0]))]) [3] rfl
  have hDc := hD.sub (ws' := [(q3, .inr (2, [.int 0, .null, .null, .int 0, .int 0]))]) [3] (by decide) rfl
  have hFc := va_free (wc := [(q3, .inr (2, [.int 0, .null, .null, .int 0, .int 0]))]) hD hS hA [3] rfl
  refine va_callv (va_runIN (host := "LeverCurtain") (As := []) (rest := [.ref q3, .ref a]) ⟨hx, hb, hml, hown, hts⟩ (c_X3_init l D cA sa q3 H.size ) (⟨va_cnB (host := "LeverCurtain") 0 hts (xlw_ws (lw_gm 229 (by decide +kernel) rfl)) rfl rfl rfl (hZ.2.2.2.2.2.2.2.1) (hts (.initialized RX3) (lw_gm 110 (by decide +kernel) rfl)) ⟨by decide, by decide, by decide +kernel⟩ ⟨Nat.le_of_ble_eq_true rfl, Nat.le_of_ble_eq_true rfl⟩, rfl, hts (.instanceMethod yX3_init) (lw_gm 228 (by decide +kernel) rfl)⟩) ⟨fun a U g mk q => by obtain ⟨z0, z1, zP, zK, zD, zZ⟩ := q; exact ⟨z0, z1, zP, va_K.moved (u := U) (U := U.calling g mk a) (Vm.Alike.refl U.vm) zK, zD, zZ.calling⟩, fun U hU hW => ⟨rfl, by rw [hU], by rw [hU]; exact hPc, va_K.moved hW.alike hK, hDc.weaken (fun _ _ _ _ => trivial), (hZ.go hS hU hW).narrow (fun z hz => hFc z hz)⟩⟩ rfl rfl hl.1 rfl (lv_room (Nat.le_of_ble_eq_true rfl)) dX4_init_30 ⟨Nat.le_of_ble_eq_true rfl, Nat.le_of_ble_eq_true rfl⟩) hS (fun q _ h => hFc q h) hFc (fun u4 t H1 locs ht hvm hw hB hz1 hk1 hS => ?_)
  obtain ⟨hP1, hK1, hD1⟩ := hB
  rw [ht] at hP1
  obtain ⟨hP, hD⟩ := va_join (wr := [(a, .inr (3, [.int 0, .int (-1), .ref q1, .ref q2, .null])), (q1, .inl (cA 0, 480, .inl (fun _ => 0))), (q2, .inl (cA 0, 4, .inl (fun _ => 0)))]) (w1 := [(q3, .inr (2, [.int (-1), .ref (u4 0), .ref (u4 1), .int 0, .int 0])), ((u4 0), .inl (cA 0, 120, .inl (fun _ => 0))), ((u4 1), .inl (cA 0, 5, .inl (fun _ => 0)))]) hP hD [3] [0, 1, 2] rfl rfl (by decide) (by decide) hk1 hFc hP1 hD1
  generalize H1 = H at hP hS ⊢
  have hP : va_P D vwCl [(a, .inr (3, [.int 0, .int (-1), .ref q1, .ref q2, .null])), (q1, .inl (cA 0, 480, .inl (fun _ => 0))), (q2, .inl (cA 0, 4, .inl (fun _ => 0))), (q3, .inr (2, [.int (-1), .ref (u4 0), .ref (u4 1), .int 0, .int 0])), ((u4 0), .inl (cA 0, 120, .inl (fun _ => 0))), ((u4 1), .inl (cA 0, 5, .inl (fun _ => 0)))] H := hP
  have hD : va_D A [(a, .inr (3, [.int 0, .int (-1), .ref q1, .ref q2, .null])), (q1, .inl (cA 0, 480, .inl (fun _ => 0))), (q2, .inl (cA 0, 4, .inl (fun _ => 0))), (q3, .inr (2, [.int (-1), .ref (u4 0), .ref (u4 1), .int 0, .int 0])), ((u4 0), .inl (cA 0, 120, .inl (fun _ => 0))), ((u4 1), .inl (cA 0, 5, .inl (fun _ => 0)))] := hD
  refine W.widen (k := 5) (n := 614) (Nat.le_of_ble_eq_true rfl) (Nat.le_of_ble_eq_true rfl) ?_
  refine va_putF (D := D) (ci := 3) (v := .ref q3) (ty := .object "LeverCurtain$LawReader") (C := RX4) (T := TX4) (N := 5) hx hb hts xin_X4 tyX4 tyX4_ok nmX4 hown hK hP hD hS 0 rfl rfl 4 (by decide) (hts (.fieldLink RX4 27 "LeverCurtain$Laws" "reader" "LLeverCurtain$LawReader;") (lw_gm 254 (by decide +kernel) rfl)) (fun _ h9 => h9) rfl hin rfl (by decide +kernel) rfl rfl (Nat.le_of_ble_eq_true rfl) dX4_init_33 (fun H locs hP hD hS => ?_)
  have hP : va_P D vwCl [(a, .inr (3, [.int 0, .int (-1), .ref q1, .ref q2, .ref q3])), (q1, .inl (cA 0, 480, .inl (fun _ => 0))), (q2, .inl (cA 0, 4, .inl (fun _ => 0))), (q3, .inr (2, [.int (-1), .ref (u4 0), .ref (u4 1), .int 0, .int 0])), ((u4 0), .inl (cA 0, 120, .inl (fun _ => 0))), ((u4 1), .inl (cA 0, 5, .inl (fun _ => 0)))] H := hP
  have hD : va_D A [(a, .inr (3, [.int 0, .int (-1), .ref q1, .ref q2, .ref q3])), (q1, .inl (cA 0, 480, .inl (fun _ => 0))), (q2, .inl (cA 0, 4, .inl (fun _ => 0))), (q3, .inr (2, [.int (-1), .ref (u4 0), .ref (u4 1), .int 0, .int 0])), ((u4 0), .inl (cA 0, 120, .inl (fun _ => 0))), ((u4 1), .inl (cA 0, 5, .inl (fun _ => 0)))] := hD
  have hP9 := hP.sub (ws' := [(a, .inr (3, [.int 0, .int (-1), .ref q1, .ref q2, .ref q3])), (q1, .inl (cA 0, 480, .inl (fun _ => 0))), (q2, .inl (cA 0, 4, .inl (fun _ => 0))), (q3, .inr (2, [.int (-1), .ref (u4 0), .ref (u4 1), .int 0, .int 0])), ((u4 0), .inl (cA 0, 120, .inl (fun _ => 0))), ((u4 1), .inl (cA 0, 5, .inl (fun _ => 0)))]) [0, 1, 2, 3, 4, 5] rfl
  have hD9 := hD.sub (ws' := [(a, .inr (3, [.int 0, .int (-1), .ref q1, .ref q2, .ref q3])), (q1, .inl (cA 0, 480, .inl (fun _ => 0))), (q2, .inl (cA 0, 4, .inl (fun _ => 0))), (q3, .inr (2, [.int (-1), .ref (u4 0), .ref (u4 1), .int 0, .int 0])), ((u4 0), .inl (cA 0, 120, .inl (fun _ => 0))), ((u4 1), .inl (cA 0, 5, .inl (fun _ => 0)))]) [0, 1, 2, 3, 4, 5] (by decide) rfl
  exact W.vret hx hb hr (fun t ht hW => ⟨⟨fun k => ([q1, q2, q3, (u4 0), (u4 1)] : List Nat).getD k 0, rfl, trivial, by rw [ht]; exact hP9, va_K.moved hW.alike hK, hD9⟩, hS.F ht⟩) hS.2.2 dX4_init_36
