section RULES
variable {S : xS} {l : Launch} {own : String} {cc : ByteArray} {nL d : Nat} {ret : Option FieldType} {ρ : Type} {K : ρ → xO} {o o1 o2 : Option ρ} {pc : Nat} {L : List (Option rV)} {st : List rV} {M : xM}

/-- a step that changes the stack alone -/
theorem AW.step {pc' : Nat} {st' : List rV} (h : AW S l own cc nL ret d K o pc' L st' M)
    (f : ∀ (D : va_G) (cA : Nat → ClassId) (ad : Nat → Nat) (p : Program) (e : Env) (s : State) (m : MethodId) (args : Array Value) (below : List Frame) (meth : Method) (c : Code) (H : Heap) (locs : List Loc) (ls : Array Slot) (Q : State → Prop),
      xC S D cA ad own cc nL ret p s m args meth c → xH S D cA ad s H locs M → xL ad ls nL L → p.tables.exec = Jvm.exec → c.code = cc →
      W p l e (xRm d) s m args below meth c H locs 0 0 Q (F0 m pc' ls (st'.map (xv ad))) → W p l e (xRm d) s m args below meth c H locs 0 0 Q (F0 m pc ls (st.map (xv ad)))) : AW S l own cc nL ret d K o pc L st M := by
  intro q0 ho D cA ad p e s m args below meth c H locs ls hC hH hl
  exact f D cA ad p e s m args below meth c H locs ls _ hC hH hl hC.1.1 hC.1.2.1 (h q0 ho D cA ad p e s m args below meth c H locs ls hC hH hl)
theorem AW.sub {L' : List (Option rV)} (h : AW S l own cc nL ret d K o pc L' st M) (hs : xsub L' L) : AW S l own cc nL ret d K o pc L st M := by
  intro q0 ho D cA ad p e s m args below meth c H locs ls hC hH hl
  exact h q0 ho D cA ad p e s m args below meth c H locs ls hC hH (hl.sub hs)
theorem AW.eq {o' : Option ρ} (h : AW S l own cc nL ret d K o' pc L st M) (e : o = o') : AW S l own cc nL ret d K o pc L st M := by subst e; exact h
theorem AW.none : AW S l own cc nL ret d K none pc L st M := by
  intro q0 ho
  cases ho
theorem AW.ite {c : Prop} [Decidable c] (h1 : c → AW S l own cc nL ret d K o1 pc L st M) (h2 : ¬ c → AW S l own cc nL ret d K o2 pc L st M) : AW S l own cc nL ret d K (if c then o1 else o2) pc L st M := by
  by_cases h : c
  · rw [if_pos h]; exact h1 h
  · rw [if_neg h]; exact h2 h
theorem A_iconst {n : Int} {v : Int32} (hdg : decode cc pc = .ok (.iconst n, 1)) (hv : Int32.ofInt n = v) (k : AW S l own cc nL ret d K o (pc + 1) L (xi v :: st) M) : AW S l own cc nL ret d K o pc L (st) M :=
  k.step fun D cA ad p e s m args below meth c H locs ls Q hC hH hl hx hb k => lv_iconst hx hb hdg hv k
theorem A_bipush {n : Int} {v : Int32} (hdg : decode cc pc = .ok (.bipush n, 2)) (hv : (Int8.ofInt n).toInt32 = v) (k : AW S l own cc nL ret d K o (pc + 2) L (xi v :: st) M) : AW S l own cc nL ret d K o pc L (st) M :=
  k.step fun D cA ad p e s m args below meth c H locs ls Q hC hH hl hx hb k => lv_bipush hx hb hdg hv k
theorem A_sipush {n : Int} {v : Int32} (hdg : decode cc pc = .ok (.sipush n, 3)) (hv : (Int16.ofInt n).toInt32 = v) (k : AW S l own cc nL ret d K o (pc + 3) L (xi v :: st) M) : AW S l own cc nL ret d K o pc L (st) M :=
  k.step fun D cA ad p e s m args below meth c H locs ls Q hC hH hl hx hb k => lv_sipush hx hb hdg hv k
theorem A_lconst {n : Fin 2} {v : Int64} (hdg : decode cc pc = .ok (.lconst n, 1)) (hv : Int64.ofNat (n : Nat) = v) (k : AW S l own cc nL ret d K o (pc + 1) L (xl v :: st) M) : AW S l own cc nL ret d K o pc L (st) M :=
  k.step fun D cA ad p e s m args below meth c H locs ls Q hC hH hl hx hb k => lv_lconst hx hb hdg hv k
theorem A_ldc {index : Nat} {v : Int32} (hdg : decode cc pc = .ok (.ldc index, 2)) (hw : Jvm.Cond.constant own index v ∈ lw_g) (k : AW S l own cc nL ret d K o (pc + 2) L (xi v :: st) M) : AW S l own cc nL ret d K o pc L (st) M :=
  k.step fun D cA ad p e s m args below meth c H locs ls Q hC hH hl hx hb k => lv_ldc hx hb hC.1.2.2.2.1 (hC.1.2.2.2.2 _ hw) hdg k
theorem A_ldcw {index : Nat} {v : Int32} (hdg : decode cc pc = .ok (.ldc_w index, 3)) (hw : Jvm.Cond.constant own index v ∈ lw_g) (k : AW S l own cc nL ret d K o (pc + 3) L (xi v :: st) M) : AW S l own cc nL ret d K o pc L (st) M :=
  k.step fun D cA ad p e s m args below meth c H locs ls Q hC hH hl hx hb k => lv_ldcw hx hb hC.1.2.2.2.1 (hC.1.2.2.2.2 _ hw) hdg k
theorem A_ldc2 {index : Nat} {v : Int64} (hdg : decode cc pc = .ok (.ldc2_w index, 3)) (hw : Jvm.Cond.constantLong own index v ∈ lw_g) (k : AW S l own cc nL ret d K o (pc + 3) L (xl v :: st) M) : AW S l own cc nL ret d K o pc L (st) M :=
  k.step fun D cA ad p e s m args below meth c H locs ls Q hC hH hl hx hb k => lv_ldc2 hx hb hC.1.2.2.2.1 (hC.1.2.2.2.2 _ hw) hdg k
theorem A_iload_n {j : Fin 4} {x : Int32} (hdg : decode cc pc = .ok (.iload_n j, 1)) (hl0 : L[(j : Nat)]? = some (some (xi x))) (k : AW S l own cc nL ret d K o (pc + 1) L (xi x :: st) M) : AW S l own cc nL ret d K o pc L (st) M :=
  k.step fun D cA ad p e s m args below meth c H locs ls Q hC hH hl hx hb k => lv_iload_n hx hb hdg rfl (hl.2.2 _ _ hl0) k
theorem A_iload {i : Nat} {x : Int32} (hdg : decode cc pc = .ok (.iload i, 2)) (hl0 : L[i]? = some (some (xi x))) (k : AW S l own cc nL ret d K o (pc + 2) L (xi x :: st) M) : AW S l own cc nL ret d K o pc L (st) M :=
  k.step fun D cA ad p e s m args below meth c H locs ls Q hC hH hl hx hb k => lv_iload hx hb hdg (hl.2.2 _ _ hl0) k
theorem A_lload_n {j : Fin 4} {x : Int64} (hdg : decode cc pc = .ok (.lload_n j, 1)) (hl0 : L[(j : Nat)]? = some (some (xl x))) (k : AW S l own cc nL ret d K o (pc + 1) L (xl x :: st) M) : AW S l own cc nL ret d K o pc L (st) M :=
  k.step fun D cA ad p e s m args below meth c H locs ls Q hC hH hl hx hb k => lv_lload_n hx hb hdg rfl (hl.2.2 _ _ hl0) k
theorem A_lload {i : Nat} {x : Int64} (hdg : decode cc pc = .ok (.lload i, 2)) (hl0 : L[i]? = some (some (xl x))) (k : AW S l own cc nL ret d K o (pc + 2) L (xl x :: st) M) : AW S l own cc nL ret d K o pc L (st) M :=
  k.step fun D cA ad p e s m args below meth c H locs ls Q hC hH hl hx hb k => lv_lload hx hb hdg (hl.2.2 _ _ hl0) k
theorem A_aload_n {j : Fin 4} {x : Nat} (hdg : decode cc pc = .ok (.aload_n j, 1)) (hl0 : L[(j : Nat)]? = some (some (xr x))) (k : AW S l own cc nL ret d K o (pc + 1) L (xr x :: st) M) : AW S l own cc nL ret d K o pc L (st) M :=
  k.step fun D cA ad p e s m args below meth c H locs ls Q hC hH hl hx hb k => lv_aload_n hx hb hdg rfl (hl.2.2 _ _ hl0) k
theorem A_aload {i : Nat} {x : Nat} (hdg : decode cc pc = .ok (.aload i, 2)) (hl0 : L[i]? = some (some (xr x))) (k : AW S l own cc nL ret d K o (pc + 2) L (xr x :: st) M) : AW S l own cc nL ret d K o pc L (st) M :=
  k.step fun D cA ad p e s m args below meth c H locs ls Q hC hH hl hx hb k => lv_aload hx hb hdg (hl.2.2 _ _ hl0) k
theorem A_iadd {x y : Int32} (hdg : decode cc pc = .ok (.iadd, 1)) (k : AW S l own cc nL ret d K o (pc + 1) L (xi (x + y) :: st) M) : AW S l own cc nL ret d K o pc L (xi y :: xi x :: st) M :=
  k.step fun D cA ad p e s m args below meth c H locs ls Q hC hH hl hx hb k => lv_iadd hx hb hdg k
theorem A_isub {x y : Int32} (hdg : decode cc pc = .ok (.isub, 1)) (k : AW S l own cc nL ret d K o (pc + 1) L (xi (x - y) :: st) M) : AW S l own cc nL ret d K o pc L (xi y :: xi x :: st) M :=
  k.step fun D cA ad p e s m args below meth c H locs ls Q hC hH hl hx hb k => lv_isub hx hb hdg k
theorem A_imul {x y : Int32} (hdg : decode cc pc = .ok (.imul, 1)) (k : AW S l own cc nL ret d K o (pc + 1) L (xi (x * y) :: st) M) : AW S l own cc nL ret d K o pc L (xi y :: xi x :: st) M :=
  k.step fun D cA ad p e s m args below meth c H locs ls Q hC hH hl hx hb k => lv_imul hx hb hdg k
theorem A_iand {x y : Int32} (hdg : decode cc pc = .ok (.iand, 1)) (k : AW S l own cc nL ret d K o (pc + 1) L (xi (x &&& y) :: st) M) : AW S l own cc nL ret d K o pc L (xi y :: xi x :: st) M :=
  k.step fun D cA ad p e s m args below meth c H locs ls Q hC hH hl hx hb k => lv_iand hx hb hdg k
theorem A_ior {x y : Int32} (hdg : decode cc pc = .ok (.ior, 1)) (k : AW S l own cc nL ret d K o (pc + 1) L (xi (x ||| y) :: st) M) : AW S l own cc nL ret d K o pc L (xi y :: xi x :: st) M :=
  k.step fun D cA ad p e s m args below meth c H locs ls Q hC hH hl hx hb k => lv_ior hx hb hdg k
theorem A_ixor {x y : Int32} (hdg : decode cc pc = .ok (.ixor, 1)) (k : AW S l own cc nL ret d K o (pc + 1) L (xi (x ^^^ y) :: st) M) : AW S l own cc nL ret d K o pc L (xi y :: xi x :: st) M :=
  k.step fun D cA ad p e s m args below meth c H locs ls Q hC hH hl hx hb k => lv_ixor hx hb hdg k
theorem A_ishl {x y : Int32} (hdg : decode cc pc = .ok (.ishl, 1)) (k : AW S l own cc nL ret d K o (pc + 1) L (xi (x <<< (y &&& 31)) :: st) M) : AW S l own cc nL ret d K o pc L (xi y :: xi x :: st) M :=
  k.step fun D cA ad p e s m args below meth c H locs ls Q hC hH hl hx hb k => lv_ishl hx hb hdg k
theorem A_ishr {x y : Int32} (hdg : decode cc pc = .ok (.ishr, 1)) (k : AW S l own cc nL ret d K o (pc + 1) L (xi (x >>> (y &&& 31)) :: st) M) : AW S l own cc nL ret d K o pc L (xi y :: xi x :: st) M :=
  k.step fun D cA ad p e s m args below meth c H locs ls Q hC hH hl hx hb k => lv_ishr hx hb hdg k
theorem A_iushr {x y : Int32} (hdg : decode cc pc = .ok (.iushr, 1)) (k : AW S l own cc nL ret d K o (pc + 1) L (xi ((x.toUInt32 >>> (y.toUInt32 &&& Int32.toUInt32 31)).toInt32) :: st) M) : AW S l own cc nL ret d K o pc L (xi y :: xi x :: st) M :=
  k.step fun D cA ad p e s m args below meth c H locs ls Q hC hH hl hx hb k => lv_iushr hx hb hdg rfl k
theorem A_ineg {x : Int32} (hdg : decode cc pc = .ok (.ineg, 1)) (k : AW S l own cc nL ret d K o (pc + 1) L (xi (-x) :: st) M) : AW S l own cc nL ret d K o pc L (xi x :: st) M :=
  k.step fun D cA ad p e s m args below meth c H locs ls Q hC hH hl hx hb k => lv_ineg hx hb hdg k
theorem A_ladd {x y : Int64} (hdg : decode cc pc = .ok (.ladd, 1)) (k : AW S l own cc nL ret d K o (pc + 1) L (xl (x + y) :: st) M) : AW S l own cc nL ret d K o pc L (xl y :: xl x :: st) M :=
  k.step fun D cA ad p e s m args below meth c H locs ls Q hC hH hl hx hb k => lv_ladd hx hb hdg k
theorem A_lsub {x y : Int64} (hdg : decode cc pc = .ok (.lsub, 1)) (k : AW S l own cc nL ret d K o (pc + 1) L (xl (x - y) :: st) M) : AW S l own cc nL ret d K o pc L (xl y :: xl x :: st) M :=
  k.step fun D cA ad p e s m args below meth c H locs ls Q hC hH hl hx hb k => lv_lsub hx hb hdg k
theorem A_lmul {x y : Int64} (hdg : decode cc pc = .ok (.lmul, 1)) (k : AW S l own cc nL ret d K o (pc + 1) L (xl (x * y) :: st) M) : AW S l own cc nL ret d K o pc L (xl y :: xl x :: st) M :=
  k.step fun D cA ad p e s m args below meth c H locs ls Q hC hH hl hx hb k => lv_lmul hx hb hdg k
theorem A_land {x y : Int64} (hdg : decode cc pc = .ok (.land, 1)) (k : AW S l own cc nL ret d K o (pc + 1) L (xl (x &&& y) :: st) M) : AW S l own cc nL ret d K o pc L (xl y :: xl x :: st) M :=
  k.step fun D cA ad p e s m args below meth c H locs ls Q hC hH hl hx hb k => lv_land hx hb hdg k
theorem A_lor {x y : Int64} (hdg : decode cc pc = .ok (.lor, 1)) (k : AW S l own cc nL ret d K o (pc + 1) L (xl (x ||| y) :: st) M) : AW S l own cc nL ret d K o pc L (xl y :: xl x :: st) M :=
  k.step fun D cA ad p e s m args below meth c H locs ls Q hC hH hl hx hb k => lv_lor hx hb hdg k
theorem A_lushr {x : Int64} {y : Int32} (hdg : decode cc pc = .ok (.lushr, 1)) (k : AW S l own cc nL ret d K o (pc + 1) L (xl ((x.toUInt64 >>> (y.toInt64.toUInt64 &&& Int64.toUInt64 63)).toInt64) :: st) M) : AW S l own cc nL ret d K o pc L (xi y :: xl x :: st) M :=
  k.step fun D cA ad p e s m args below meth c H locs ls Q hC hH hl hx hb k => lv_lushr hx hb hdg rfl k
theorem A_lshl {x : Int64} {y : Int32} (hdg : decode cc pc = .ok (.lshl, 1)) (k : AW S l own cc nL ret d K o (pc + 1) L (xl (x <<< (y.toInt64 &&& 63)) :: st) M) : AW S l own cc nL ret d K o pc L (xi y :: xl x :: st) M :=
  k.step fun D cA ad p e s m args below meth c H locs ls Q hC hH hl hx hb k => lv_lshl hx hb hdg rfl k
theorem A_i2l {x : Int32} (hdg : decode cc pc = .ok (.i2l, 1)) (k : AW S l own cc nL ret d K o (pc + 1) L (xl x.toInt64 :: st) M) : AW S l own cc nL ret d K o pc L (xi x :: st) M :=
  k.step fun D cA ad p e s m args below meth c H locs ls Q hC hH hl hx hb k => lv_i2l hx hb hdg rfl k
theorem A_l2i {x : Int64} (hdg : decode cc pc = .ok (.l2i, 1)) (k : AW S l own cc nL ret d K o (pc + 1) L (xi x.toInt32 :: st) M) : AW S l own cc nL ret d K o pc L (xl x :: st) M :=
  k.step fun D cA ad p e s m args below meth c H locs ls Q hC hH hl hx hb k => lv_l2i hx hb hdg rfl k
theorem A_i2b {x : Int32} (hdg : decode cc pc = .ok (.i2b, 1)) (k : AW S l own cc nL ret d K o (pc + 1) L (xi x.toInt8.toInt32 :: st) M) : AW S l own cc nL ret d K o pc L (xi x :: st) M :=
  k.step fun D cA ad p e s m args below meth c H locs ls Q hC hH hl hx hb k => lv_i2b hx hb hdg rfl k
theorem A_lcmp {x y : Int64} (hdg : decode cc pc = .ok (.lcmp, 1)) (k : AW S l own cc nL ret d K o (pc + 1) L (xi (lg_cmp x y) :: st) M) : AW S l own cc nL ret d K o pc L (xl y :: xl x :: st) M :=
  k.step fun D cA ad p e s m args below meth c H locs ls Q hC hH hl hx hb k => W.lcmp hx hb hdg k
def xs1 : rV → Bool := fun v => match v with
  | .inr (.inl _) => false
  | _ => true
theorem xs1_cat {ad : Nat → Nat} {v : rV} (h : xs1 v = true) : (xv ad v).category = 1 := by
  rcases v with x | y | k
  · rfl
  · cases h
  · rfl
theorem A_dup {v : rV} (hdg : decode cc pc = .ok (.dup, 1)) (h1 : xs1 v = true) (k : AW S l own cc nL ret d K o (pc + 1) L (v :: v :: st) M) : AW S l own cc nL ret d K o pc L (v :: st) M :=
  k.step fun D cA ad p e s m args below meth c H locs ls Q hC hH hl hx hb k => lv_dup hx hb hdg (xs1_cat h1) k
theorem A_pop {v : rV} (hdg : decode cc pc = .ok (.pop, 1)) (h1 : xs1 v = true) (k : AW S l own cc nL ret d K o (pc + 1) L (st) M) : AW S l own cc nL ret d K o pc L (v :: st) M :=
  k.step fun D cA ad p e s m args below meth c H locs ls Q hC hH hl hx hb k => lv_pop hx hb hdg (xs1_cat h1) k
theorem A_dup_x1 {v w : rV} (hdg : decode cc pc = .ok (.dup_x1, 1)) (h1 : xs1 v = true) (h2 : xs1 w = true) (k : AW S l own cc nL ret d K o (pc + 1) L (v :: w :: v :: st) M) : AW S l own cc nL ret d K o pc L (v :: w :: st) M :=
  k.step fun D cA ad p e s m args below meth c H locs ls Q hC hH hl hx hb k => lv_dup_x1 hx hb hdg (xs1_cat h1) (xs1_cat h2) k
theorem A_dup2 {v w : rV} (hdg : decode cc pc = .ok (.dup2, 1)) (h1 : xs1 v = true) (h2 : xs1 w = true) (k : AW S l own cc nL ret d K o (pc + 1) L (v :: w :: v :: w :: st) M) : AW S l own cc nL ret d K o pc L (v :: w :: st) M :=
  k.step fun D cA ad p e s m args below meth c H locs ls Q hC hH hl hx hb k => lv_dup2_11 hx hb hdg (xs1_cat h1) (xs1_cat h2) k
theorem A_goto {off : Int} {tgt : Nat} (hdg : decode cc pc = .ok (.goto off, 3)) (ht : (pc : Int) + off = (tgt : Int)) (k : AW S l own cc nL ret d K o (tgt) L (st) M) : AW S l own cc nL ret d K o pc L (st) M :=
  k.step fun D cA ad p e s m args below meth c H locs ls Q hC hH hl hx hb k => lv_goto hx hb hdg ht k
theorem A_ifnull {off : Int} {x : Nat} (hdg : decode cc pc = .ok (.ifnull off, 3)) (k : AW S l own cc nL ret d K o (pc + 3) L (st) M) : AW S l own cc nL ret d K o pc L (xr x :: st) M :=
  k.step fun D cA ad p e s m args below meth c H locs ls Q hC hH hl hx hb k => lv_ifnull hx hb hdg k
theorem A_if_eq {x : Int32} {off : Int} {tgt : Nat} (hdg : decode cc pc = .ok (.ifCond .eq off, 3)) (ht : (pc : Int) + off = (tgt : Int)) (k1 : x = 0 → AW S l own cc nL ret d K o1 tgt L st M) (k2 : ¬ (x = 0) → AW S l own cc nL ret d K o2 (pc + 3) L st M) : AW S l own cc nL ret d K (if x = 0 then o1 else o2) pc L (xi x :: st) M := by
  by_cases h : x = 0
  · rw [if_pos h]
    exact (k1 h).step fun D cA ad p e s m args below meth c H locs ls Q hC hH hl hx hb k => lv_if_eq hx hb hdg ht (fun _ => k) (fun z => absurd h z)
  · rw [if_neg h]
    exact (k2 h).step fun D cA ad p e s m args below meth c H locs ls Q hC hH hl hx hb k => lv_if_eq hx hb hdg ht (fun z => absurd z h) (fun _ => k)
theorem A_if_lt {x : Int32} {off : Int} {tgt : Nat} (hdg : decode cc pc = .ok (.ifCond .lt off, 3)) (ht : (pc : Int) + off = (tgt : Int)) (k1 : x < 0 → AW S l own cc nL ret d K o1 tgt L st M) (k2 : ¬ (x < 0) → AW S l own cc nL ret d K o2 (pc + 3) L st M) : AW S l own cc nL ret d K (if x < 0 then o1 else o2) pc L (xi x :: st) M := by
  by_cases h : x < 0
  · rw [if_pos h]
    exact (k1 h).step fun D cA ad p e s m args below meth c H locs ls Q hC hH hl hx hb k => lv_if_lt hx hb hdg ht (fun _ => k) (fun z => absurd h z)
  · rw [if_neg h]
    exact (k2 h).step fun D cA ad p e s m args below meth c H locs ls Q hC hH hl hx hb k => lv_if_lt hx hb hdg ht (fun z => absurd z h) (fun _ => k)
theorem A_if_ge {x : Int32} {off : Int} {tgt : Nat} (hdg : decode cc pc = .ok (.ifCond .ge off, 3)) (ht : (pc : Int) + off = (tgt : Int)) (k1 : 0 ≤ x → AW S l own cc nL ret d K o1 tgt L st M) (k2 : ¬ (0 ≤ x) → AW S l own cc nL ret d K o2 (pc + 3) L st M) : AW S l own cc nL ret d K (if 0 ≤ x then o1 else o2) pc L (xi x :: st) M := by
  by_cases h : 0 ≤ x
  · rw [if_pos h]
    exact (k1 h).step fun D cA ad p e s m args below meth c H locs ls Q hC hH hl hx hb k => lv_if_ge hx hb hdg ht (fun _ => k) (fun z => absurd h z)
  · rw [if_neg h]
    exact (k2 h).step fun D cA ad p e s m args below meth c H locs ls Q hC hH hl hx hb k => lv_if_ge hx hb hdg ht (fun z => absurd z h) (fun _ => k)
theorem A_if_gt {x : Int32} {off : Int} {tgt : Nat} (hdg : decode cc pc = .ok (.ifCond .gt off, 3)) (ht : (pc : Int) + off = (tgt : Int)) (k1 : 0 < x → AW S l own cc nL ret d K o1 tgt L st M) (k2 : ¬ (0 < x) → AW S l own cc nL ret d K o2 (pc + 3) L st M) : AW S l own cc nL ret d K (if 0 < x then o1 else o2) pc L (xi x :: st) M := by
  by_cases h : 0 < x
  · rw [if_pos h]
    exact (k1 h).step fun D cA ad p e s m args below meth c H locs ls Q hC hH hl hx hb k => lv_if_gt hx hb hdg ht (fun _ => k) (fun z => absurd h z)
  · rw [if_neg h]
    exact (k2 h).step fun D cA ad p e s m args below meth c H locs ls Q hC hH hl hx hb k => lv_if_gt hx hb hdg ht (fun z => absurd z h) (fun _ => k)
theorem A_if_le {x : Int32} {off : Int} {tgt : Nat} (hdg : decode cc pc = .ok (.ifCond .le off, 3)) (ht : (pc : Int) + off = (tgt : Int)) (k1 : x ≤ 0 → AW S l own cc nL ret d K o1 tgt L st M) (k2 : ¬ (x ≤ 0) → AW S l own cc nL ret d K o2 (pc + 3) L st M) : AW S l own cc nL ret d K (if x ≤ 0 then o1 else o2) pc L (xi x :: st) M := by
  by_cases h : x ≤ 0
  · rw [if_pos h]
    exact (k1 h).step fun D cA ad p e s m args below meth c H locs ls Q hC hH hl hx hb k => lv_if_le hx hb hdg ht (fun _ => k) (fun z => absurd h z)
  · rw [if_neg h]
    exact (k2 h).step fun D cA ad p e s m args below meth c H locs ls Q hC hH hl hx hb k => lv_if_le hx hb hdg ht (fun z => absurd z h) (fun _ => k)
theorem A_icmp_eq {x y : Int32} {off : Int} {tgt : Nat} (hdg : decode cc pc = .ok (.if_icmp .eq off, 3)) (ht : (pc : Int) + off = (tgt : Int)) (k1 : x = y → AW S l own cc nL ret d K o1 tgt L st M) (k2 : ¬ (x = y) → AW S l own cc nL ret d K o2 (pc + 3) L st M) : AW S l own cc nL ret d K (if x = y then o1 else o2) pc L (xi y :: xi x :: st) M := by
  by_cases h : x = y
  · rw [if_pos h]
    exact (k1 h).step fun D cA ad p e s m args below meth c H locs ls Q hC hH hl hx hb k => lv_icmp_eq hx hb hdg ht (fun _ => k) (fun z => absurd h z)
  · rw [if_neg h]
    exact (k2 h).step fun D cA ad p e s m args below meth c H locs ls Q hC hH hl hx hb k => lv_icmp_eq hx hb hdg ht (fun z => absurd z h) (fun _ => k)
theorem A_icmp_lt {x y : Int32} {off : Int} {tgt : Nat} (hdg : decode cc pc = .ok (.if_icmp .lt off, 3)) (ht : (pc : Int) + off = (tgt : Int)) (k1 : x < y → AW S l own cc nL ret d K o1 tgt L st M) (k2 : ¬ (x < y) → AW S l own cc nL ret d K o2 (pc + 3) L st M) : AW S l own cc nL ret d K (if x < y then o1 else o2) pc L (xi y :: xi x :: st) M := by
  by_cases h : x < y
  · rw [if_pos h]
    exact (k1 h).step fun D cA ad p e s m args below meth c H locs ls Q hC hH hl hx hb k => lv_icmp_lt hx hb hdg ht (fun _ => k) (fun z => absurd h z)
  · rw [if_neg h]
    exact (k2 h).step fun D cA ad p e s m args below meth c H locs ls Q hC hH hl hx hb k => lv_icmp_lt hx hb hdg ht (fun z => absurd z h) (fun _ => k)
theorem A_icmp_ge {x y : Int32} {off : Int} {tgt : Nat} (hdg : decode cc pc = .ok (.if_icmp .ge off, 3)) (ht : (pc : Int) + off = (tgt : Int)) (k1 : y ≤ x → AW S l own cc nL ret d K o1 tgt L st M) (k2 : ¬ (y ≤ x) → AW S l own cc nL ret d K o2 (pc + 3) L st M) : AW S l own cc nL ret d K (if y ≤ x then o1 else o2) pc L (xi y :: xi x :: st) M := by
  by_cases h : y ≤ x
  · rw [if_pos h]
    exact (k1 h).step fun D cA ad p e s m args below meth c H locs ls Q hC hH hl hx hb k => lv_icmp_ge hx hb hdg ht (fun _ => k) (fun z => absurd h z)
  · rw [if_neg h]
    exact (k2 h).step fun D cA ad p e s m args below meth c H locs ls Q hC hH hl hx hb k => lv_icmp_ge hx hb hdg ht (fun z => absurd z h) (fun _ => k)
theorem A_icmp_gt {x y : Int32} {off : Int} {tgt : Nat} (hdg : decode cc pc = .ok (.if_icmp .gt off, 3)) (ht : (pc : Int) + off = (tgt : Int)) (k1 : y < x → AW S l own cc nL ret d K o1 tgt L st M) (k2 : ¬ (y < x) → AW S l own cc nL ret d K o2 (pc + 3) L st M) : AW S l own cc nL ret d K (if y < x then o1 else o2) pc L (xi y :: xi x :: st) M := by
  by_cases h : y < x
  · rw [if_pos h]
    exact (k1 h).step fun D cA ad p e s m args below meth c H locs ls Q hC hH hl hx hb k => lv_icmp_gt hx hb hdg ht (fun _ => k) (fun z => absurd h z)
  · rw [if_neg h]
    exact (k2 h).step fun D cA ad p e s m args below meth c H locs ls Q hC hH hl hx hb k => lv_icmp_gt hx hb hdg ht (fun z => absurd z h) (fun _ => k)
theorem A_icmp_le {x y : Int32} {off : Int} {tgt : Nat} (hdg : decode cc pc = .ok (.if_icmp .le off, 3)) (ht : (pc : Int) + off = (tgt : Int)) (k1 : x ≤ y → AW S l own cc nL ret d K o1 tgt L st M) (k2 : ¬ (x ≤ y) → AW S l own cc nL ret d K o2 (pc + 3) L st M) : AW S l own cc nL ret d K (if x ≤ y then o1 else o2) pc L (xi y :: xi x :: st) M := by
  by_cases h : x ≤ y
  · rw [if_pos h]
    exact (k1 h).step fun D cA ad p e s m args below meth c H locs ls Q hC hH hl hx hb k => lv_icmp_le hx hb hdg ht (fun _ => k) (fun z => absurd h z)
  · rw [if_neg h]
    exact (k2 h).step fun D cA ad p e s m args below meth c H locs ls Q hC hH hl hx hb k => lv_icmp_le hx hb hdg ht (fun z => absurd z h) (fun _ => k)
theorem A_if_ne {x : Int32} {off : Int} {tgt : Nat} (hdg : decode cc pc = .ok (.ifCond .ne off, 3)) (ht : (pc : Int) + off = (tgt : Int)) (k2 : x = 0 → AW S l own cc nL ret d K o2 (pc + 3) L st M) (k1 : ¬ x = 0 → AW S l own cc nL ret d K o1 tgt L st M) : AW S l own cc nL ret d K (if x = 0 then o2 else o1) pc L (xi x :: st) M := by
  by_cases h : x = 0
  · rw [if_pos h]
    exact (k2 h).step fun D cA ad p e s m args below meth c H locs ls Q hC hH hl hx hb k => lv_if_ne hx hb hdg ht (fun z => absurd h z) (fun _ => k)
  · rw [if_neg h]
    exact (k1 h).step fun D cA ad p e s m args below meth c H locs ls Q hC hH hl hx hb k => lv_if_ne hx hb hdg ht (fun _ => k) (fun z => absurd z h)
theorem A_icmp_ne {x y : Int32} {off : Int} {tgt : Nat} (hdg : decode cc pc = .ok (.if_icmp .ne off, 3)) (ht : (pc : Int) + off = (tgt : Int)) (k2 : x = y → AW S l own cc nL ret d K o2 (pc + 3) L st M) (k1 : ¬ x = y → AW S l own cc nL ret d K o1 tgt L st M) : AW S l own cc nL ret d K (if x = y then o2 else o1) pc L (xi y :: xi x :: st) M := by
  by_cases h : x = y
  · rw [if_pos h]
    exact (k2 h).step fun D cA ad p e s m args below meth c H locs ls Q hC hH hl hx hb k => lv_icmp_ne hx hb hdg ht (fun z => absurd h z) (fun _ => k)
  · rw [if_neg h]
    exact (k1 h).step fun D cA ad p e s m args below meth c H locs ls Q hC hH hl hx hb k => lv_icmp_ne hx hb hdg ht (fun _ => k) (fun z => absurd z h)
theorem A_istore_n {j : Fin 4} {x : Int32} (hdg : decode cc pc = .ok (.istore_n j, 1)) (hn : (j : Nat) < nL) (hk : xnl L (j : Nat) = true) (k : AW S l own cc nL ret d K o (pc + 1) (L.set (j : Nat) (some (xi x))) st M) : AW S l own cc nL ret d K o pc L (xi x :: st) M := by
  intro q0 ho D cA ad p e s m args below meth c H locs ls hC hH hl
  exact lv_istore_n hC.1.1 hC.1.2.1 hdg rfl hl.has hn rfl fun ls' hl' => k q0 ho D cA ad p e s m args below meth c H locs ls' hC hH (xL.set1 (v := xi x) hk hl')
theorem A_istore {i : Nat} {x : Int32} (hdg : decode cc pc = .ok (.istore i, 2)) (hn : i < nL) (hk : xnl L i = true) (k : AW S l own cc nL ret d K o (pc + 2) (L.set i (some (xi x))) st M) : AW S l own cc nL ret d K o pc L (xi x :: st) M := by
  intro q0 ho D cA ad p e s m args below meth c H locs ls hC hH hl
  exact lv_istore hC.1.1 hC.1.2.1 hdg hl.has hn rfl fun ls' hl' => k q0 ho D cA ad p e s m args below meth c H locs ls' hC hH (xL.set1 (v := xi x) hk hl')
theorem A_astore_n {j : Fin 4} {x : Nat} (hdg : decode cc pc = .ok (.astore_n j, 1)) (hn : (j : Nat) < nL) (hk : xnl L (j : Nat) = true) (k : AW S l own cc nL ret d K o (pc + 1) (L.set (j : Nat) (some (xr x))) st M) : AW S l own cc nL ret d K o pc L (xr x :: st) M := by
  intro q0 ho D cA ad p e s m args below meth c H locs ls hC hH hl
  exact lv_astore_n hC.1.1 hC.1.2.1 hdg rfl hl.has hn rfl fun ls' hl' => k q0 ho D cA ad p e s m args below meth c H locs ls' hC hH (xL.set1 (v := xr x) hk hl')
theorem A_astore {i : Nat} {x : Nat} (hdg : decode cc pc = .ok (.astore i, 2)) (hn : i < nL) (hk : xnl L i = true) (k : AW S l own cc nL ret d K o (pc + 2) (L.set i (some (xr x))) st M) : AW S l own cc nL ret d K o pc L (xr x :: st) M := by
  intro q0 ho D cA ad p e s m args below meth c H locs ls hC hH hl
  exact lv_astore hC.1.1 hC.1.2.1 hdg hl.has hn rfl fun ls' hl' => k q0 ho D cA ad p e s m args below meth c H locs ls' hC hH (xL.set1 (v := xr x) hk hl')
theorem A_lstore_n {j : Fin 4} {x : Int64} (hdg : decode cc pc = .ok (.lstore_n j, 1)) (hn : (j : Nat) + 1 < nL) (hk : xnl L (j : Nat) = true) (k : AW S l own cc nL ret d K o (pc + 1) ((L.set (j : Nat) (some (xl x))).set ((j : Nat) + 1) none) st M) : AW S l own cc nL ret d K o pc L (xl x :: st) M := by
  intro q0 ho D cA ad p e s m args below meth c H locs ls hC hH hl
  exact lv_lstore_n hC.1.1 hC.1.2.1 hdg rfl hl.has hn rfl fun ls' hl' => k q0 ho D cA ad p e s m args below meth c H locs ls' hC hH (xL.set2 hk hl')
theorem A_lstore {i : Nat} {x : Int64} (hdg : decode cc pc = .ok (.lstore i, 2)) (hn : i + 1 < nL) (hk : xnl L i = true) (k : AW S l own cc nL ret d K o (pc + 2) ((L.set i (some (xl x))).set (i + 1) none) st M) : AW S l own cc nL ret d K o pc L (xl x :: st) M := by
  intro q0 ho D cA ad p e s m args below meth c H locs ls hC hH hl
  exact lv_lstore hC.1.1 hC.1.2.1 hdg hl.has hn rfl fun ls' hl' => k q0 ho D cA ad p e s m args below meth c H locs ls' hC hH (xL.set2 hk hl')
theorem A_iinc {i : Nat} {n : Int} {x v : Int32} (hdg : decode cc pc = .ok (.iinc i n, 3)) (hl0 : L[i]? = some (some (xi x))) (hv : Int32.ofInt n = v) (hn : i < nL) (hk : xnl L i = true) (k : AW S l own cc nL ret d K o (pc + 3) (L.set i (some (xi (x + v)))) st M) : AW S l own cc nL ret d K o pc L st M := by
  intro q0 ho D cA ad p e s m args below meth c H locs ls hC hH hl
  obtain ⟨q, hq⟩ := List.getElem?_of_mem (xps_mem (ad := ad) hl0)
  exact lv_iinc hC.1.1 hC.1.2.1 hdg hl.has (k := q) hq (by rw [hv]) hn rfl fun ls' hl' => k q0 ho D cA ad p e s m args below meth c H locs ls' hC hH (xL.set1 (v := xi (x + v)) hk hl')
theorem A_irem {x y : Int32} (hdg : decode cc pc = .ok (.irem, 1)) (k : ¬ y = 0 → AW S l own cc nL ret d K o (pc + 1) L (xi (x - x / y * y) :: st) M) : AW S l own cc nL ret d K (if y = 0 then none else o) pc L (xi y :: xi x :: st) M := by
  by_cases h : y = 0
  · rw [if_pos h]; exact AW.none
  · rw [if_neg h]
    exact (k h).step fun D cA ad p e s m args below meth c H locs ls Q hC hH hl hx hb k => lv_irem hx hb hdg h k
theorem A_lrem {x y : Int64} (hdg : decode cc pc = .ok (.lrem, 1)) (k : ¬ y = 0 → AW S l own cc nL ret d K o (pc + 1) L (xl (x - x / y * y) :: st) M) : AW S l own cc nL ret d K (if y = 0 then none else o) pc L (xl y :: xl x :: st) M := by
  by_cases h : y = 0
  · rw [if_pos h]; exact AW.none
  · rw [if_neg h]
    exact (k h).step fun D cA ad p e s m args below meth c H locs ls Q hC hH hl hx hb k => lv_lrem hx hb hdg h k
theorem A_ldiv {x y : Int64} (hdg : decode cc pc = .ok (.ldiv, 1)) (k : ¬ y = 0 → AW S l own cc nL ret d K o (pc + 1) L (xl (x / y) :: st) M) : AW S l own cc nL ret d K (if y = 0 then none else o) pc L (xl y :: xl x :: st) M := by
  by_cases h : y = 0
  · rw [if_pos h]; exact AW.none
  · rw [if_neg h]
    exact (k h).step fun D cA ad p e s m args below meth c H locs ls Q hC hH hl hx hb k => lv_ldiv hx hb hdg h k
theorem A_tableOut {dflt lo hi : Int} {offs : Array Int} {len : Nat} {x : Int32} {tgt : Nat} (hdg : decode cc pc = .ok (.tableswitch dflt lo hi offs, len)) (h : x.toInt < lo ∨ hi < x.toInt) (ht : (pc : Int) + dflt = (tgt : Int)) (k : AW S l own cc nL ret d K o tgt L st M) : AW S l own cc nL ret d K o pc L (xi x :: st) M :=
  k.step fun D cA ad p e s m args below meth c H locs ls Q hC hH hl hx hb k => lv_tableOut hx hb hdg h ht k
theorem A_tableIn {dflt lo hi : Int} {offs : Array Int} {len : Nat} {x : Int32} {off : Int} {tgt : Nat} (hdg : decode cc pc = .ok (.tableswitch dflt lo hi offs, len)) (h1 : ¬ x.toInt < lo) (h2 : ¬ hi < x.toInt) (ho : offs[(x.toInt - lo).toNat]? = some off) (ht : (pc : Int) + off = (tgt : Int)) (k : AW S l own cc nL ret d K o tgt L st M) : AW S l own cc nL ret d K o pc L (xi x :: st) M :=
  k.step fun D cA ad p e s m args below meth c H locs ls Q hC hH hl hx hb k => lv_tableIn hx hb hdg h1 h2 ho ht k
theorem A_lookup {dflt : Int} {ps : Array (Int × Int)} {len : Nat} {x : Int32} {off : Int} {tgt : Nat} (hdg : decode cc pc = .ok (.lookupswitch dflt ps, len)) (hp : (ps.toList.zip (ps.toList.drop 1)).all (fun (a, next) => a.1 < next.1) = true) (hoo : Op.lookupswitch.offset ps.toList dflt x.toInt = off) (ht : (pc : Int) + off = (tgt : Int)) (k : AW S l own cc nL ret d K o tgt L st M) : AW S l own cc nL ret d K o pc L (xi x :: st) M :=
  k.step fun D cA ad p e s m args below meth c H locs ls Q hC hH hl hx hb k => lv_lookup hx hb hdg hp hoo ht k
/-- what is known of a class's fields: number ci among the classes, its fields' table -/
def xcls (ci : Nat) (C : String) (T : u_T) (N : Nat) (ty : Nat → FieldType) : Prop := vwCl[ci]? = some (C, T, N) ∧ (∀ w ∈ u_ws C T N, w ∈ lw_g) ∧ (∀ k, k < N → parseFieldDescriptor (T k).2.2.1 = some (ty k)) ∧ (∀ a, a < N → ∀ b, b < N → a ≠ b → (T a).2.1 ≠ (T b).2.1)
/-- a field's link: own's entry index is field k of class ci -/
def xfl (own : String) (index ci k : Nat) (ty : FieldType) (fin : Bool) : Prop := ∃ (C : String) (T : u_T) (N : Nat) (tys : Nat → FieldType), xcls ci C T N tys ∧ k < N ∧ tys k = ty ∧ (T k).2.2.2 = fin ∧ (T k).1 = C ∧ (Cond.fieldLink own index C (T k).2.1 (T k).2.2.1) ∈ lw_g
theorem A_getfield {index q ci j kd : Nat} {ks : List Nat} {ty : FieldType} {fin : Bool} {v : rV} (hf : xfl own index ci j ty fin) (hq : S[q]? = some (.inr (ci, ks))) (hj : ks[j]? = some kd) (hv : ∀ ad, xF ad kd (M q j) = xv ad v) (hdg : decode cc pc = .ok (.getfield index, 3)) (k : AW S l own cc nL ret d K o (pc + 3) L (v :: st) M) : AW S l own cc nL ret d K o pc L (xr q :: st) M := by
  obtain ⟨C, T, N, tys, ⟨hc, hin, hty, hnm⟩, hk, hte, hfin, hT, hlink⟩ := hf
  exact k.step fun D cA ad p e s m args below meth c H locs ls Q hC hH hl hx hb k => va_get (D := D) (cl := vwCl) (C := C) (T := T) (N := N) (ref := C) hx hb hC.1.2.2.2.2 hin hC.1.2.2.2.1 hC.2.1 hH.1 q (xW_at hq) hc j hk (hC.1.2.2.2.2 _ hlink) (fun x h => by rw [hT] at h; exact h) (v := xv ad v) (by rw [xFs_at hj, hv ad]) hdg k
theorem A_geti {index q ci j : Nat} {ks : List Nat} {ty : FieldType} {fin : Bool} (hf : xfl own index ci j ty fin) (hq : S[q]? = some (.inr (ci, ks))) (hj : ks[j]? = some 0) (hdg : decode cc pc = .ok (.getfield index, 3)) (k : AW S l own cc nL ret d K o (pc + 3) L (xi (M q j) :: st) M) : AW S l own cc nL ret d K o pc L (xr q :: st) M := A_getfield hf hq hj (fun _ => rfl) hdg k
theorem A_getr {index q ci j q2 : Nat} {ks : List Nat} {ty : FieldType} {fin : Bool} (hf : xfl own index ci j ty fin) (hq : S[q]? = some (.inr (ci, ks))) (hj : ks[j]? = some (q2 + 2)) (hdg : decode cc pc = .ok (.getfield index, 3)) (k : AW S l own cc nL ret d K o (pc + 3) L (xr q2 :: st) M) : AW S l own cc nL ret d K o pc L (xr q :: st) M := A_getfield hf hq hj (fun _ => rfl) hdg k
theorem A_getw {index q ci j : Nat} {ks : List Nat} {ty : FieldType} {fin : Bool} (hf : xfl own index ci j ty fin) (hq : S[q]? = some (.inr (ci, ks))) (hj : ks[j]? = some 1) (hdg : decode cc pc = .ok (.getfield index, 3)) (k : AW S l own cc nL ret d K o (pc + 3) L (xr (M q j).toNatClampNeg :: st) M) : AW S l own cc nL ret d K o pc L (xr q :: st) M := A_getfield hf hq hj (fun _ => rfl) hdg k
theorem A_putfield {index q ci j kd : Nat} {ks : List Nat} {ty : FieldType} {v : rV} {x : Int32} (hf : xfl own index ci j ty false) (hq : S[q]? = some (.inr (ci, ks))) (hj : ks[j]? = some kd) (hv : ∀ ad, xF ad kd x = xv ad v) (hn : ∀ ad, narrow ty (xv ad v) = xv ad v ∧ fits ty (xv ad v) = true) (hdg : decode cc pc = .ok (.putfield index, 3)) (k : AW S l own cc nL ret d K o (pc + 3) L st (xset M q j x)) : AW S l own cc nL ret d K o pc L (v :: xr q :: st) M := by
  obtain ⟨C, T, N, tys, ⟨hc, hin, hty, hnm⟩, hk, hte, hfin, hT, hlink⟩ := hf
  intro q0 ho D cA ad p e s m args below meth c H locs ls hC hH hl
  refine va_put (D := D) (cl := vwCl) (A := xA S ad) (C := C) (T := T) (N := N) (ref := C) hC.1.1 hC.1.2.1 hC.1.2.2.2.2 hin tys hty hnm hC.1.2.2.2.1 hC.2.1 hH.1 (xW_D hC.2.2.1) hH.2 q (xW_at hq) hc j hk (hC.1.2.2.2.2 _ hlink) (fun x h => by rw [hT] at h; exact h) hfin (ty := ty) (v := xv ad v) (by rw [hty j hk, hte]) (hn ad).1 (hn ad).2 (by simpa [xFs] using (List.getElem?_eq_some_iff.mp hj).1) hdg (fun H1 locs1 hP hD hS => ?_)
  rw [xW_setF hq hj (hv ad)] at hP
  exact k q0 ho D cA ad p e s m args below meth c H1 locs1 ls hC ⟨hP, hS⟩ hl
theorem A_puti {index q ci j : Nat} {ks : List Nat} {x : Int32} (hf : xfl own index ci j .int false) (hq : S[q]? = some (.inr (ci, ks))) (hj : ks[j]? = some 0) (hdg : decode cc pc = .ok (.putfield index, 3)) (k : AW S l own cc nL ret d K o (pc + 3) L st (xset M q j x)) : AW S l own cc nL ret d K o pc L (xi x :: xr q :: st) M := A_putfield hf hq hj (fun _ => rfl) (fun _ => ⟨rfl, rfl⟩) hdg k
theorem A_putz {index q ci j : Nat} {ks : List Nat} {x : Int32} (hf : xfl own index ci j .boolean false) (hq : S[q]? = some (.inr (ci, ks))) (hj : ks[j]? = some 0) (hx : x = 0 ∨ x = 1) (hdg : decode cc pc = .ok (.putfield index, 3)) (k : AW S l own cc nL ret d K o (pc + 3) L st (xset M q j x)) : AW S l own cc nL ret d K o pc L (xi x :: xr q :: st) M := A_putfield hf hq hj (fun _ => rfl) (fun _ => by rcases hx with rfl | rfl <;> exact ⟨rfl, rfl⟩) hdg k
theorem A_putw {index q ci j q2 : Nat} {ks : List Nat} {ty : FieldType} (hf : xfl own index ci j (.array ty) false) (hq : S[q]? = some (.inr (ci, ks))) (hj : ks[j]? = some 1) (hq2 : q2 < 1000) (hdg : decode cc pc = .ok (.putfield index, 3)) (k : AW S l own cc nL ret d K o (pc + 3) L st (xset M q j (nI q2))) : AW S l own cc nL ret d K o pc L (xr q2 :: xr q :: st) M := A_putfield hf hq hj (fun ad => by show Value.ref (ad (nI q2).toNatClampNeg) = _; rw [nI_clamp (by omega)]; rfl) (fun _ => ⟨rfl, rfl⟩) hdg k
theorem A_iald {q n : Nat} {i : Int32} (hq : S[q]? = some (.inl (0, n))) (hdg : decode cc pc = .ok (.iaload, 1)) (k : vp_in i n → AW S l own cc nL ret d K o (pc + 1) L (xi (M q i.toNatClampNeg) :: st) M) : AW S l own cc nL ret d K (if i < 0 ∨ n ≤ i.toNatClampNeg then none else o) pc L (xi i :: xr q :: st) M := by
  by_cases h : i < 0 ∨ n ≤ i.toNatClampNeg
  · rw [if_pos h]; exact AW.none
  · rw [if_neg h]
    exact (k h).step fun D cA ad p e s m args below meth c H locs ls Q hC hH hl hx hb k => va_iald (D := D) hx hb hC.2.1 hH.1 q 0 (xW_at hq) rfl h hdg k
theorem A_bald {q n : Nat} {i : Int32} (hq : S[q]? = some (.inl (1, n))) (hdg : decode cc pc = .ok (.baload, 1)) (k : vp_in i n → AW S l own cc nL ret d K o (pc + 1) L (xi (M q i.toNatClampNeg) :: st) M) : AW S l own cc nL ret d K (if i < 0 ∨ n ≤ i.toNatClampNeg then none else o) pc L (xi i :: xr q :: st) M := by
  by_cases h : i < 0 ∨ n ≤ i.toNatClampNeg
  · rw [if_pos h]; exact AW.none
  · rw [if_neg h]
    exact (k h).step fun D cA ad p e s m args below meth c H locs ls Q hC hH hl hx hb k => va_bald (D := D) hx hb hC.2.1 hH.1 q 1 (xW_at hq) rfl h hdg k
theorem A_zald {q n : Nat} {i : Int32} (hq : S[q]? = some (.inl (2, n))) (hdg : decode cc pc = .ok (.baload, 1)) (k : vp_in i n → AW S l own cc nL ret d K o (pc + 1) L (xi (M q i.toNatClampNeg) :: st) M) : AW S l own cc nL ret d K (if i < 0 ∨ n ≤ i.toNatClampNeg then none else o) pc L (xi i :: xr q :: st) M := by
  by_cases h : i < 0 ∨ n ≤ i.toNatClampNeg
  · rw [if_pos h]; exact AW.none
  · rw [if_neg h]
    exact (k h).step fun D cA ad p e s m args below meth c H locs ls Q hC hH hl hx hb k => va_zald (D := D) hx hb hC.2.1 hH.1 q 2 (xW_at hq) rfl h hdg k
theorem A_iast {q n : Nat} {i x : Int32} (hq : S[q]? = some (.inl (0, n))) (hdg : decode cc pc = .ok (.iastore, 1)) (k : vp_in i n → AW S l own cc nL ret d K o (pc + 1) L st (xset M q i.toNatClampNeg (x))) : AW S l own cc nL ret d K (if i < 0 ∨ n ≤ i.toNatClampNeg then none else o) pc L (xi x :: xi i :: xr q :: st) M := by
  by_cases h : i < 0 ∨ n ≤ i.toNatClampNeg
  · rw [if_pos h]; exact AW.none
  · rw [if_neg h]
    intro q0 ho D cA ad p e s m args below meth c H locs ls hC hH hl
    refine va_iast (D := D) (A := xA S ad) hC.1.1 hC.1.2.1 hC.2.1 hH.1 (xW_D hC.2.2.1) hH.2 q 0 (xW_at hq) rfl h hdg (fun H1 locs1 hP hD hS => ?_)
    rw [xW_setA hq] at hP
    exact k h q0 ho D cA ad p e s m args below meth c H1 locs1 ls hC ⟨hP, hS⟩ hl
theorem A_bast {q n : Nat} {i x : Int32} (hq : S[q]? = some (.inl (1, n))) (hdg : decode cc pc = .ok (.bastore, 1)) (k : vp_in i n → AW S l own cc nL ret d K o (pc + 1) L st (xset M q i.toNatClampNeg (vp_nar .byte x))) : AW S l own cc nL ret d K (if i < 0 ∨ n ≤ i.toNatClampNeg then none else o) pc L (xi x :: xi i :: xr q :: st) M := by
  by_cases h : i < 0 ∨ n ≤ i.toNatClampNeg
  · rw [if_pos h]; exact AW.none
  · rw [if_neg h]
    intro q0 ho D cA ad p e s m args below meth c H locs ls hC hH hl
    refine va_bast (D := D) (A := xA S ad) hC.1.1 hC.1.2.1 hC.2.1 hH.1 (xW_D hC.2.2.1) hH.2 q 1 (xW_at hq) rfl h hdg (fun H1 locs1 hP hD hS => ?_)
    rw [xW_setA hq] at hP
    exact k h q0 ho D cA ad p e s m args below meth c H1 locs1 ls hC ⟨hP, hS⟩ hl
theorem A_zast {q n : Nat} {i x : Int32} (hq : S[q]? = some (.inl (2, n))) (hdg : decode cc pc = .ok (.bastore, 1)) (k : vp_in i n → AW S l own cc nL ret d K o (pc + 1) L st (xset M q i.toNatClampNeg (vp_nar .boolean x))) : AW S l own cc nL ret d K (if i < 0 ∨ n ≤ i.toNatClampNeg then none else o) pc L (xi x :: xi i :: xr q :: st) M := by
  by_cases h : i < 0 ∨ n ≤ i.toNatClampNeg
  · rw [if_pos h]; exact AW.none
  · rw [if_neg h]
    intro q0 ho D cA ad p e s m args below meth c H locs ls hC hH hl
    refine va_zast (D := D) (A := xA S ad) hC.1.1 hC.1.2.1 hC.2.1 hH.1 (xW_D hC.2.2.1) hH.2 q 2 (xW_at hq) rfl h hdg (fun H1 locs1 hP hD hS => ?_)
    rw [xW_setA hq] at hP
    exact k h q0 ho D cA ad p e s m args below meth c H1 locs1 ls hC ⟨hP, hS⟩ hl
theorem A_alen {q n t : Nat} (hq : S[q]? = some (.inl (t, n))) (ht : t < 3) (hdg : decode cc pc = .ok (.arraylength, 1)) (k : AW S l own cc nL ret d K o (pc + 1) L (xi (Int32.ofNat n) :: st) M) : AW S l own cc nL ret d K o pc L (xr q :: st) M := by
  rcases (show t = 0 ∨ t = 1 ∨ t = 2 by omega) with rfl | rfl | rfl
  · exact k.step fun D cA ad p e s m args below meth c H locs ls Q hC hH hl hx hb k => va_alen (D := D) hx hb hC.2.1 hH.1 q 0 (xW_at hq) rfl rfl hdg k
  · exact k.step fun D cA ad p e s m args below meth c H locs ls Q hC hH hl hx hb k => va_alen (D := D) hx hb hC.2.1 hH.1 q 1 (xW_at hq) rfl rfl hdg k
  · exact k.step fun D cA ad p e s m args below meth c H locs ls Q hC hH hl hx hb k => va_alen (D := D) hx hb hC.2.1 hH.1 q 2 (xW_at hq) rfl rfl hdg k
theorem A_iret {v : Int32} (hr : ret = some .int) (hdg : decode cc pc = .ok (.ireturn, 1)) : AW S l own cc nL ret d ki (some (v, M)) pc L [xi v] M := by
  intro q0 ho D cA ad p e s m args below meth c H locs ls hC hH hl
  cases ho
  subst hr
  exact W.iret hC.1.1 hC.1.2.1 hC.2.2.2.1 (fun t ht hW => ⟨⟨rfl, by rw [ht]; exact hH.1, va_K.moved hW.alike hC.2.1⟩, hH.2.F ht⟩) hH.2.2.2 hdg hC.2.2.2.2.1
theorem A_zret {v : Int32} (hr : ret = some .boolean) (hdg : decode cc pc = .ok (.ireturn, 1)) : AW S l own cc nL ret d ki (if v = 0 ∨ v = 1 then some (v, M) else none) pc L [xi v] M := by
  by_cases hv : v = 0 ∨ v = 1
  · rw [if_pos hv]
    intro q0 ho D cA ad p e s m args below meth c H locs ls hC hH hl
    cases ho
    subst hr
    exact W.zret hC.1.1 hC.1.2.1 hC.2.2.2.1 (by rcases hv with rfl | rfl <;> rfl) (fun t ht hW => ⟨⟨rfl, by rw [ht]; exact hH.1, va_K.moved hW.alike hC.2.1⟩, hH.2.F ht⟩) hH.2.2.2 hdg hC.2.2.2.2.1
  · rw [if_neg hv]; exact AW.none
theorem A_zret' {v : Int32} (hr : ret = some .boolean) (hv : v = 0 ∨ v = 1) (hdg : decode cc pc = .ok (.ireturn, 1)) : AW S l own cc nL ret d ki (some (v, M)) pc L [xi v] M := by
  have h := A_zret (S := S) (l := l) (own := own) (nL := nL) (d := d) (L := L) (M := M) (v := v) hr hdg
  rw [if_pos hv] at h
  exact h
theorem A_vret (hr : ret = none) (hdg : decode cc pc = .ok (.return_, 1)) : AW S l own cc nL ret d kv (some M) pc L [] M := by
  intro q0 ho D cA ad p e s m args below meth c H locs ls hC hH hl
  cases ho
  subst hr
  exact W.vret hC.1.1 hC.1.2.1 hC.2.2.2.1 (fun t ht hW => ⟨⟨rfl, by rw [ht]; exact hH.1, va_K.moved hW.alike hC.2.1⟩, hH.2.F ht⟩) hH.2.2.2 hdg hC.2.2.2.2.1
/-- a method out of its walk -/
theorem AM.of {y : MethodName} {as : List rV} {L0 : List (Option rV)} (h : AW S l own cc nL ret d K o 0 L0 [] M) (hy : plainName y.cls = true) (hown : y.cls = own) (hlen : xsl as ≤ nL) (hs : xsub L0 (xargs as)) : AM S l y cc nL ret d K as M o := by
  intro q0 ho D cA ad hap
  refine Met.ofW (cc := cc) (maxL := nL) (ret := ret) hy rfl ?_
  intro p e s m args below meth c s₁ B hml hv
  obtain ⟨rfl, hP, hK, hZ⟩ := hv
  have hts0 := atoms_spec (ws := xws y cc nL ret) B.pre
  have hown' : s.vm.findClass own = some m.cls := by rw [← hown]; exact findClass_of_methodNamed B.named
  have hlen' : (lg_sl (as.map (xv ad))).length ≤ nL := by rw [xsl_len]; exact hlen
  rw [lg_entry_eq]
  have hl := lv_entry (as.map (xv ad)) hlen'
  exact h q0 ho D cA ad p e s m _ below meth c s.heap [] _ ⟨⟨B.exec, B.bytes, hml, hown', fun w hw => hts0 w (List.mem_cons_of_mem _ hw)⟩, hK, hap, B.returns, B.notSynchronized, hZ⟩ ⟨hP, va_S.rf⟩ (xL_entry hl hs)
/-- what the tables say of a call -/
def xlk (own : String) (index : Nat) (y : MethodName) (bytes : ByteArray) (maxL : Nat) (rt : Option FieldType) (n : Nat) : Prop :=
  Cond.methodLink own index y ∈ lw_g ∧ Cond.initialized y.cls ∈ lw_g ∧ Cond.code y bytes maxL rt ∈ lw_g ∧ (y.cls ≠ "java/lang/invoke/MethodHandle" ∧ y.cls ≠ "java/lang/invoke/VarHandle" ∧ (parseMethodDescriptor y.desc).map (fun d => d.parameters.length) = some n) ∧ maxL ≤ 40
def xlS (own : String) (index : Nat) (y : MethodName) (bytes : ByteArray) (maxL : Nat) (rt : Option FieldType) (n : Nat) : Prop := xlk own index y bytes maxL rt n ∧ Cond.static y ∈ lw_g
def xlV (own : String) (index : Nat) (y : MethodName) (bytes : ByteArray) (maxL : Nat) (rt : Option FieldType) (n : Nat) (ci : Nat) : Prop := xlk own index y bytes maxL rt n ∧ Cond.instanceMethod y ∈ lw_g ∧ Cond.selects y.cls y y ∈ lw_g ∧ ∃ (T : u_T) (N : Nat), vwCl[ci]? = some (y.cls, T, N)
variable {index maxL dd n ci q : Nat} {y : MethodName} {bytes : ByteArray} {rt : Option FieldType} {as rest : List rV} {ρ' : Type} {K' : ρ' → xO} {oc : Option ρ'} {ks : List Nat}
theorem A_callS' {k : ρ' → Option ρ} (hM : AM S l y bytes maxL rt dd K' as M oc) (hk : xlS own index y bytes maxL rt n) (hn : as.length = n) (hd : dd + 1 ≤ d) (hW : xsl rest ≤ 8) (hst : st = as.reverse ++ rest) (hdg : decode cc pc = .ok (.invokestatic index, 3))
    (kk : ∀ q', oc = some q' → AW S l own cc nL ret d K (k q') (pc + 3) L (((K' q').1.map xi).toList ++ rest) (K' q').2) : AW S l own cc nL ret d K (oc.bind k) pc L st M := by
  intro q0 ho D cA ad p e s m args below meth c H locs ls hC hH hl
  obtain ⟨q', h1, h2⟩ := Option.bind_eq_some_iff.mp ho
  obtain ⟨⟨hk1, hk2, hk3, hk4, hk5⟩, hk6⟩ := hk
  have hts := hC.1.2.2.2.2
  have run := va_runS (p := p) (l := l) (e := e) (meth := meth) (R := xRm d) (below := below) (locs := locs) (cells := 0) (slots := 0) (n := n) (As := as.map (xv ad)) (rest := rest.map (xv ad)) (H := H) (g := F0 m pc ls (st.map (xv ad))) hC.1 (hM q' h1 D cA ad hC.2.2.1)
    ⟨callB_of n hts (xlw_ws hk3) rfl rfl rfl (hts _ hk2) (hts _ hk1) hk4 ⟨by simp only [xRm]; omega, by simp only [xRm]; omega⟩, hts _ hk6⟩
    ⟨xPc_blind, fun U hU hWm => ⟨rfl, by rw [hU]; exact hH.1, va_K.moved hWm.alike hC.2.1, hC.2.2.2.2.2.go hH.2 hU hWm⟩⟩ rfl (by simpa using hn) hl.1 (by subst hst; simp) (lv_room (by rw [xsl_cat]; exact hW)) hdg ⟨Nat.le_refl _, Nat.le_refl _⟩
  refine xcall run hH.2 (fun H1 locs1 hP hS => ?_)
  have w := kk q' h1 q0 h2 D cA ad p e s m args below meth c H1 locs1 ls hC ⟨hP, hS⟩ hl
  rw [List.map_append] at w
  have e : (((K' q').1.map xi).toList).map (xv ad) = ((K' q').1.map Value.int).toList := by
    cases (K' q').1 <;> rfl
  rw [e] at w
  exact w
theorem A_callV' {k : ρ' → Option ρ} (hM : AM S l y bytes maxL rt dd K' (xr q :: as) M oc) (hk : xlV own index y bytes maxL rt n ci) (hq : S[q]? = some (.inr (ci, ks))) (hn : as.length = n) (hd : dd + 1 ≤ d) (hW : xsl rest ≤ 8) (hst : st = as.reverse ++ xr q :: rest) (hdg : decode cc pc = .ok (.invokevirtual index, 3))
    (kk : ∀ q', oc = some q' → AW S l own cc nL ret d K (k q') (pc + 3) L (((K' q').1.map xi).toList ++ rest) (K' q').2) : AW S l own cc nL ret d K (oc.bind k) pc L st M := by
  intro q0 ho D cA ad p e s m args below meth c H locs ls hC hH hl
  obtain ⟨q', h1, h2⟩ := Option.bind_eq_some_iff.mp ho
  obtain ⟨⟨hk1, hk2, hk3, hk4, hk5⟩, hk6, hk7, T, N, hk8⟩ := hk
  have hts := hC.1.2.2.2.2
  have run := va_runV (p := p) (l := l) (e := e) (meth := meth) (R := xRm d) (below := below) (locs := locs) (cells := 0) (slots := 0) (n := n) (b := ad q) (C := y.cls) (As := as.map (xv ad)) (rest := rest.map (xv ad)) (H := H) (g := F0 m pc ls (st.map (xv ad))) hC.1 (hM q' h1 D cA ad hC.2.2.1)
    ⟨callB_of n hts (xlw_ws hk3) rfl rfl rfl (hts _ hk2) (hts _ hk1) hk4 ⟨by simp only [xRm]; omega, by simp only [xRm]; omega⟩, hts _ hk6, hts _ hk7⟩
    ⟨xPc_blind, va_recv (q := (y.cls, T, N)) hC.2.1 hH.1 hk8 (xW_at hq), fun U hU hWm => ⟨rfl, by rw [hU]; exact hH.1, va_K.moved hWm.alike hC.2.1, hC.2.2.2.2.2.go hH.2 hU hWm⟩⟩ rfl (by simpa using hn) hl.1 (by subst hst; simp [xv]) (lv_room (by rw [xsl_cat]; exact hW)) hdg ⟨Nat.le_refl _, Nat.le_refl _⟩
  refine xcall run hH.2 (fun H1 locs1 hP hS => ?_)
  have w := kk q' h1 q0 h2 D cA ad p e s m args below meth c H1 locs1 ls hC ⟨hP, hS⟩ hl
  rw [List.map_append] at w
  have e : (((K' q').1.map xi).toList).map (xv ad) = ((K' q').1.map Value.int).toList := by
    cases (K' q').1 <;> rfl
  rw [e] at w
  exact w
/-- a call that answers an int -/
theorem A_callSi {oi : Option (Int32 × xM)} {k : Int32 × xM → Option ρ} (hM : AM S l y bytes maxL rt dd ki as M oi) (hk : xlS own index y bytes maxL rt n) (hn : as.length = n) (hd : dd + 1 ≤ d) (hW : xsl rest ≤ 8) (hst : st = as.reverse ++ rest) (hdg : decode cc pc = .ok (.invokestatic index, 3))
    (kk : ∀ v M', oi = some (v, M') → AW S l own cc nL ret d K (k (v, M')) (pc + 3) L (xi v :: rest) M') : AW S l own cc nL ret d K (oi.bind k) pc L st M := A_callS' hM hk hn hd hW hst hdg (fun q' h => kk q'.1 q'.2 h)
theorem A_callSv {ov : Option xM} {k : xM → Option ρ} (hM : AM S l y bytes maxL rt dd kv as M ov) (hk : xlS own index y bytes maxL rt n) (hn : as.length = n) (hd : dd + 1 ≤ d) (hW : xsl rest ≤ 8) (hst : st = as.reverse ++ rest) (hdg : decode cc pc = .ok (.invokestatic index, 3))
    (kk : ∀ M', ov = some M' → AW S l own cc nL ret d K (k M') (pc + 3) L rest M') : AW S l own cc nL ret d K (ov.bind k) pc L st M := A_callS' hM hk hn hd hW hst hdg (fun q' h => kk q' h)
theorem A_callVi {oi : Option (Int32 × xM)} {k : Int32 × xM → Option ρ} (hM : AM S l y bytes maxL rt dd ki (xr q :: as) M oi) (hk : xlV own index y bytes maxL rt n ci) (hq : S[q]? = some (.inr (ci, ks))) (hn : as.length = n) (hd : dd + 1 ≤ d) (hW : xsl rest ≤ 8) (hst : st = as.reverse ++ xr q :: rest) (hdg : decode cc pc = .ok (.invokevirtual index, 3))
    (kk : ∀ v M', oi = some (v, M') → AW S l own cc nL ret d K (k (v, M')) (pc + 3) L (xi v :: rest) M') : AW S l own cc nL ret d K (oi.bind k) pc L st M := A_callV' hM hk hq hn hd hW hst hdg (fun q' h => kk q'.1 q'.2 h)
theorem A_callVv {ov : Option xM} {k : xM → Option ρ} (hM : AM S l y bytes maxL rt dd kv (xr q :: as) M ov) (hk : xlV own index y bytes maxL rt n ci) (hq : S[q]? = some (.inr (ci, ks))) (hn : as.length = n) (hd : dd + 1 ≤ d) (hW : xsl rest ≤ 8) (hst : st = as.reverse ++ xr q :: rest) (hdg : decode cc pc = .ok (.invokevirtual index, 3))
    (kk : ∀ M', ov = some M' → AW S l own cc nL ret d K (k M') (pc + 3) L rest M') : AW S l own cc nL ret d K (ov.bind k) pc L st M := A_callV' hM hk hq hn hd hW hst hdg (fun q' h => kk q' h)
end RULES
