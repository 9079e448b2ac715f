/-! THE ABSTRACT MACHINE: a world of cells of a fixed shape, whose numbers are a function M; a method's meaning is a function that answers (result, new M), or none where nothing is claimed -/
abbrev rV : Type := Int32 ⊕ Int64 ⊕ Nat
abbrev xi (x : Int32) : rV := .inl x
abbrev xl (x : Int64) : rV := .inr (.inl x)
abbrev xr (k : Nat) : rV := .inr (.inr k)
def xv (ad : Nat → Nat) : rV → Value := fun v => match v with
  | .inl x => .int x
  | .inr (.inl y) => .long y
  | .inr (.inr k) => .ref (ad k)
abbrev xK : Type := (Nat × Nat) ⊕ (Nat × List Nat)
abbrev xS : Type := List xK
abbrev xM : Type := Nat → Nat → Int32
abbrev xO : Type := Option Int32 × xM
def ki (q : Int32 × xM) : xO := (some q.1, q.2)
def kv (M : xM) : xO := (none, M)
def xF (ad : Nat → Nat) (kd : Nat) (x : Int32) : Value := match kd with
  | 0 => .int x
  | 1 => .ref (ad x.toNatClampNeg)
  | k + 2 => .ref (ad k)
def xFs (ad : Nat → Nat) (ks : List Nat) (f : Nat → Int32) : List Value := ks.mapIdx (fun j kd => xF ad kd (f j))
def xE (cA : Nat → ClassId) (ad : Nat → Nat) (c : xK) (f : Nat → Int32) : va_E := match c with
  | .inl q => .inl (cA q.1, q.2, .inl f)
  | .inr q => .inr (q.1, xFs ad q.2 f)
def xW (S : xS) (cA : Nat → ClassId) (ad : Nat → Nat) (M : xM) : va_W := S.mapIdx (fun k c => (ad k, xE cA ad c (M k)))
def xTy (cA : Nat → ClassId) : List (ClassId × FieldType) := [(cA 0, .int), (cA 1, .byte), (cA 2, .boolean)]
def xset (M : xM) (k j : Nat) (v : Int32) : xM := fun a b => if a = k ∧ b = j then v else M a b
def xA (S : xS) (ad : Nat → Nat) : Nat → Prop := fun q => ∃ k, k < S.length ∧ q = ad k
def xApart (S : xS) (ad : Nat → Nat) : Prop := ∀ i j, i < S.length → j < S.length → ad i = ad j → i = j
def xRm (d : Nat) : Room := { frames := d, cells := 0, slots := 0, locals := 64 * d }
theorem xW_at {S : xS} {cA : Nat → ClassId} {ad : Nat → Nat} {M : xM} {k : Nat} {c : xK} (h : S[k]? = some c) : (xW S cA ad M)[k]? = some (ad k, xE cA ad c (M k)) := by
  simp [xW, List.getElem?_mapIdx, h]
theorem xW_get {S : xS} {cA : Nat → ClassId} {ad : Nat → Nat} {M : xM} {k : Nat} {q : Nat × va_E} (h : (xW S cA ad M)[k]? = some q) : ∃ c, S[k]? = some c ∧ q = (ad k, xE cA ad c (M k)) := by
  simp only [xW, List.getElem?_mapIdx, Option.map_eq_some_iff] at h
  obtain ⟨c, h1, h2⟩ := h
  exact ⟨c, h1, h2.symm⟩
theorem xW_D {S : xS} {cA : Nat → ClassId} {ad : Nat → Nat} {M : xM} (h : xApart S ad) : va_D (xA S ad) (xW S cA ad M) := by
  refine ⟨fun i j p q hp hq e => ?_, fun k q hq => ?_⟩
  · obtain ⟨c, h1, rfl⟩ := xW_get hp
    obtain ⟨c2, h2, rfl⟩ := xW_get hq
    exact h i j (List.getElem?_eq_some_iff.mp h1).1 (List.getElem?_eq_some_iff.mp h2).1 e
  · obtain ⟨c, h1, rfl⟩ := xW_get hq
    exact ⟨k, (List.getElem?_eq_some_iff.mp h1).1, rfl⟩
theorem xFs_at {ad : Nat → Nat} {ks : List Nat} {f : Nat → Int32} {j kd : Nat} (h : ks[j]? = some kd) : (xFs ad ks f)[j]? = some (xF ad kd (f j)) := by
  simp [xFs, List.getElem?_mapIdx, h]
/-- an object's int field is written -/
theorem xW_setF {S : xS} {cA : Nat → ClassId} {ad : Nat → Nat} {M : xM} {k ci j kd : Nat} {ks : List Nat} {x : Int32} {v : Value} (h : S[k]? = some (.inr (ci, ks))) (hj : ks[j]? = some kd) (hv : xF ad kd x = v) :
    (xW S cA ad M).set k (ad k, .inr (ci, (xFs ad ks (M k)).set j v)) = xW S cA ad (xset M k j x) := by
  apply List.ext_getElem?
  intro i
  have hl := (List.getElem?_eq_some_iff.mp h).1
  by_cases hi : k = i
  · subst hi
    rw [List.getElem?_set_self (by simpa [xW] using hl), xW_at h]
    show some (ad k, (Sum.inr (ci, _) : va_E)) = some (ad k, Sum.inr (ci, _))
    congr 3
    congr 1
    apply List.ext_getElem?
    intro b
    have hjl := (List.getElem?_eq_some_iff.mp hj).1
    by_cases hb : j = b
    · subst hb
      rw [List.getElem?_set_self (by simpa [xFs] using hjl), xFs_at hj]
      simp [xset, hv]
    · rw [List.getElem?_set_ne hb]
      simp only [xFs, List.getElem?_mapIdx]
      cases ks[b]? with
      | none => rfl
      | some z => simp [xset, Ne.symm hb]
  · rw [List.getElem?_set_ne hi]
    simp only [xW, List.getElem?_mapIdx]
    have e : (xset M k j x) i = M i := by
      funext b
      simp [xset, Ne.symm hi]
    rw [e]
/-- an array's place is written -/
theorem xW_setA {S : xS} {cA : Nat → ClassId} {ad : Nat → Nat} {M : xM} {k t n j : Nat} {x : Int32} (h : S[k]? = some (.inl (t, n))) :
    (xW S cA ad M).set k (ad k, .inl (cA t, n, .inl (upd (M k) j x))) = xW S cA ad (xset M k j x) := by
  apply List.ext_getElem?
  intro i
  have hl := (List.getElem?_eq_some_iff.mp h).1
  by_cases hi : k = i
  · subst hi
    rw [List.getElem?_set_self (by simpa [xW] using hl), xW_at h]
    have e : upd (M k) j x = xset M k j x k := by
      funext b
      simp [xset, upd]
    rw [e]
    rfl
  · rw [List.getElem?_set_ne hi]
    simp only [xW, List.getElem?_mapIdx]
    have e : (xset M k j x) i = M i := by
      funext b
      simp [xset, Ne.symm hi]
    rw [e]
-- locals
def xL (ad : Nat → Nat) (ls : Array Slot) (nL : Nat) (L : List (Option rV)) : Prop := ls.size = nL ∧ lv_wf ls ∧ ∀ (i : Nat) (v : rV), L[i]? = some (some v) → ls[i]? = some (.val (xv ad v))
def xps (ad : Nat → Nat) (L : List (Option rV)) : List (Nat × Value) := (List.range L.length).filterMap (fun i => match L[i]? with
  | some (some v) => some (i, xv ad v)
  | _ => none)
theorem xps_mem {ad : Nat → Nat} {L : List (Option rV)} {i : Nat} {v : rV} (h : L[i]? = some (some v)) : (i, xv ad v) ∈ xps ad L := by
  refine List.mem_filterMap.mpr ⟨i, List.mem_range.mpr (List.getElem?_eq_some_iff.mp h).1, ?_⟩
  simp [h]
theorem xps_of {ad : Nat → Nat} {L : List (Option rV)} {q : Nat × Value} (h : q ∈ xps ad L) : ∃ v, L[q.1]? = some (some v) ∧ q.2 = xv ad v := by
  obtain ⟨i, -, hi⟩ := List.mem_filterMap.mp h
  revert hi
  split
  · rename_i v hv
    intro hi
    cases hi
    exact ⟨v, hv, rfl⟩
  · intro hi
    cases hi
theorem xL.has {ad : Nat → Nat} {ls : Array Slot} {nL : Nat} {L : List (Option rV)} (h : xL ad ls nL L) : lv_has ls nL (xps ad L) := by
  refine ⟨h.1, h.2.1, fun q hq => ?_⟩
  obtain ⟨v, h1, h2⟩ := xps_of hq
  rw [h2]
  exact h.2.2 _ _ h1
def xlong (L : List (Option rV)) (i : Nat) : Bool := match L[i]? with
  | some (some (.inr (.inl _))) => true
  | _ => false
def xnl (L : List (Option rV)) (i : Nat) : Bool := match i with
  | 0 => true
  | j + 1 => !xlong L j
theorem xv_cat {ad : Nat → Nat} {v : rV} (h : (xv ad v).category = 2) : ∃ y, v = xl y := by
  rcases v with x | y | k
  · simp [xv, Value.category] at h
  · exact ⟨y, rfl⟩
  · simp [xv, Value.category] at h
theorem xL.set1 {ad : Nat → Nat} {ls' : Array Slot} {nL i : Nat} {L : List (Option rV)} {v : rV} (hk : xnl L i = true) (h : lv_has ls' nL ((i, xv ad v) :: (xps ad L).filter (fun q => !(q.1 == i) && !(q.1 + 1 == i && q.2.category == 2)))) : xL ad ls' nL (L.set i (some v)) := by
  refine ⟨h.1, h.2.1, fun j u hj => ?_⟩
  by_cases hi : i = j
  · subst hi
    have hlt : i < (L.set i (some v)).length := (List.getElem?_eq_some_iff.mp hj).1
    rw [List.getElem?_set_self (by simpa using hlt)] at hj
    cases hj
    exact h.2.2 (i, xv ad v) List.mem_cons_self
  · rw [List.getElem?_set_ne hi] at hj
    refine h.2.2 (j, xv ad u) (List.mem_cons_of_mem _ (List.mem_filter.mpr ⟨xps_mem hj, ?_⟩))
    have h1 : (j == i) = false := by simpa using Ne.symm hi
    have h2 : (j + 1 == i && (xv ad u).category == 2) = false := by
      by_cases e : j + 1 = i
      · subst e
        have h3 : ¬ (xv ad u).category = 2 := by
          intro hc
          obtain ⟨y, rfl⟩ := xv_cat hc
          simp [xnl, xlong, hj] at hk
        simp [h3]
      · simp [e]
    simp [h1, h2]
theorem xL.set2 {ad : Nat → Nat} {ls' : Array Slot} {nL i : Nat} {L : List (Option rV)} {v : Int64} (hk : xnl L i = true) (h : lv_has ls' nL ((i, Value.long v) :: (xps ad L).filter (fun q => !(q.1 == i) && (!(q.1 == i + 1) && !(q.1 + 1 == i && q.2.category == 2))))) : xL ad ls' nL ((L.set i (some (xl v))).set (i + 1) none) := by
  refine ⟨h.1, h.2.1, fun j u hj => ?_⟩
  by_cases hi1 : i + 1 = j
  · subst hi1
    have hlt : i + 1 < ((L.set i (some (xl v))).set (i + 1) none).length := (List.getElem?_eq_some_iff.mp hj).1
    rw [List.getElem?_set_self (by simpa using hlt)] at hj
    cases hj
  rw [List.getElem?_set_ne hi1] at hj
  by_cases hi : i = j
  · subst hi
    have hlt : i < (L.set i (some (xl v))).length := (List.getElem?_eq_some_iff.mp hj).1
    rw [List.getElem?_set_self (by simpa using hlt)] at hj
    cases hj
    exact h.2.2 (i, Value.long v) List.mem_cons_self
  · rw [List.getElem?_set_ne hi] at hj
    refine h.2.2 (j, xv ad u) (List.mem_cons_of_mem _ (List.mem_filter.mpr ⟨xps_mem hj, ?_⟩))
    have h1 : (j == i) = false := by simpa using Ne.symm hi
    have h1b : (j == i + 1) = false := by simpa using Ne.symm hi1
    have h2 : (j + 1 == i && (xv ad u).category == 2) = false := by
      by_cases e : j + 1 = i
      · subst e
        have h3 : ¬ (xv ad u).category = 2 := by
          intro hc
          obtain ⟨y, rfl⟩ := xv_cat hc
          simp [xnl, xlong, hj] at hk
        simp [h3]
      · simp [e]
    simp [h1, h1b, h2]
/-- fewer locals are known -/
def xsub : List (Option rV) → List (Option rV) → Prop
  | [], _ => True
  | none :: t, u => xsub t u.tail
  | some v :: t, u => u.head? = some (some v) ∧ xsub t u.tail
theorem xsub.at : ∀ {L' L : List (Option rV)}, xsub L' L → ∀ (i : Nat) (v : rV), L'[i]? = some (some v) → L[i]? = some (some v)
  | [], _, _, i, v, h => by simp at h
  | none :: t, u, h, i, v, hi => by
    cases i with
    | zero => simp at hi
    | succ i =>
      have h2 := xsub.at (L' := t) (L := u.tail) h i v (by simpa using hi)
      simpa using h2
  | some w :: t, u, h, i, v, hi => by
    cases i with
    | zero =>
      have h1 : u.head? = some (some w) := h.1
      have e : w = v := by simpa using hi
      subst e
      rw [List.head?_eq_getElem?] at h1
      exact h1
    | succ i =>
      have h2 := xsub.at (L' := t) (L := u.tail) h.2 i v (by simpa using hi)
      simpa using h2
theorem xL.sub {ad : Nat → Nat} {ls : Array Slot} {nL : Nat} {L' L : List (Option rV)} (hs : xsub L' L) (h : xL ad ls nL L) : xL ad ls nL L' := ⟨h.1, h.2.1, fun i v hi => h.2.2 i v (hs.at i v hi)⟩
-- contracts
def xQ (S : xS) (D : va_G) (cA : Nat → ClassId) (ad : Nat → Nat) (r : Option Int32) (M : xM) : Array Value → State → Outcome → State → Prop := fun _ st oc t => (oc = .returned (r.map Value.int) ∧ va_P D vwCl (xW S cA ad M) t.heap ∧ va_K D vwCl (xTy cA) t) ∧ va_F (xA S ad) st t
/-- what is left of the law's own start: its two texts, and the statics that their methods read -/
def xZ (S : xS) (ad : Nat → Nat) (U : State) : Prop := vk_S 2 [1, 5] [[121], [115, 120, 102, 119, 112]] (fun i => ad (1000 + i)) (fun i => ad (1010 + i)) (xA S ad) U U.heap ∧
  vk_R "LeverCurtainModel" 49 "y" (ad 1000) U ∧ vk_R "LeverCurtainModel" 55 "sxfwp" (ad 1001) U ∧
  va_Z "java/lang/String" "COMPACT_STRINGS" "Z" (.int 1) (xA S ad) U U.heap ∧ ∃ v : Value, (v = .null ∨ ∃ a, v = .ref a) ∧ va_Z "jdk/internal/util/Preconditions" "SIOOBE_FORMATTER" "Ljava/util/function/BiFunction;" v (xA S ad) U U.heap
theorem xZ.go {S : xS} {ad : Nat → Nat} {s U : State} {H : Heap} {locs : List Loc} (h : xZ S ad s) (hS : va_S (xA S ad) s.heap H locs) (hU : U.heap = H) (hW : s.WarmedH U.vm) : xZ S ad U := by
  obtain ⟨h1, h2, h3, h4, v, hv, h5⟩ := h
  subst hU
  exact ⟨(h1.moved hW.alike).kept hS.2.1, h2.warm hW, h3.warm hW, (h4.moved hW.alike).kept hS.2.1, v, hv, (h5.moved hW.alike).kept hS.2.1⟩
def xPc (S : xS) (D : va_G) (cA : Nat → ClassId) (ad : Nat → Nat) (as : List rV) (M : xM) : Array Value → State → Prop := va_Pc (as.map (xv ad)) (fun U => va_P D vwCl (xW S cA ad M) U.heap ∧ va_K D vwCl (xTy cA) U ∧ xZ S ad U)
/-- the tables' words that every state keeps -/
def lw_g : List Cond := lw_tbl.filter goodWord
theorem lw_gm {w : Cond} (i : Nat) (h : lw_tbl[i]? = some w) (hg : goodWord w = true) : w ∈ lw_g := List.mem_filter.mpr ⟨List.mem_of_getElem? h, hg⟩
abbrev xws (y : MethodName) (cc : ByteArray) (nL : Nat) (ret : Option FieldType) : List Cond := Cond.code y cc nL ret :: lw_g
def AM {ρ : Type} (S : xS) (l : Launch) (y : MethodName) (cc : ByteArray) (nL : Nat) (ret : Option FieldType) (d : Nat) (K : ρ → xO) (as : List rV) (M : xM) (o : Option ρ) : Prop := ∀ q, o = some q → ∀ (D : va_G) (cA : Nat → ClassId) (ad : Nat → Nat), xApart S ad → Met l y (xws y cc nL ret) (xRm d) (xPc S D cA ad as M) (xQ S D cA ad (K q).1 (K q).2) 0 0 (xA S ad)
def xC (S : xS) (D : va_G) (cA : Nat → ClassId) (ad : Nat → Nat) (own : String) (cc : ByteArray) (nL : Nat) (ret : Option FieldType) (p : Program) (s : State) (m : MethodId) (args : Array Value) (meth : Method) (c : Code) : Prop :=
  CallFix p m c cc nL s args lw_g own ∧ va_K D vwCl (xTy cA) s ∧ xApart S ad ∧ meth.sig.returnType = ret ∧ meth.locks = false ∧ xZ S ad s
def xH (S : xS) (D : va_G) (cA : Nat → ClassId) (ad : Nat → Nat) (s : State) (H : Heap) (locs : List Loc) (M : xM) : Prop := va_P D vwCl (xW S cA ad M) H ∧ va_S (xA S ad) s.heap H locs
/-- from here (pc, locals L, stack st, numbers M) the method comes to its end with o, if o says one -/
def AW {ρ : Type} (S : xS) (l : Launch) (own : String) (cc : ByteArray) (nL : Nat) (ret : Option FieldType) (d : Nat) (K : ρ → xO) (o : Option ρ) (pc : Nat) (L : List (Option rV)) (st : List rV) (M : xM) : Prop :=
  ∀ q, o = some q → ∀ (D : va_G) (cA : Nat → ClassId) (ad : Nat → Nat) (p : Program) (e : Env) (s : State) (m : MethodId) (args : Array Value) (below : List Frame) (meth : Method) (c : Code) (H : Heap) (locs : List Loc) (ls : Array Slot),
    xC S D cA ad own cc nL ret p s m args meth c → xH S D cA ad s H locs M → xL ad ls nL L →
    W p l e (xRm d) s m args below meth c H locs 0 0 (MQ below (xQ S D cA ad (K q).1 (K q).2) args s 0 0 (xA S ad)) (F0 m pc ls (st.map (xv ad)))
-- a method's entry
def xargs : List rV → List (Option rV)
  | [] => []
  | .inr (.inl y) :: vs => some (xl y) :: none :: xargs vs
  | .inl x :: vs => some (xi x) :: xargs vs
  | .inr (.inr k) :: vs => some (xr k) :: xargs vs
theorem xargs_at {ad : Nat → Nat} : ∀ (as : List rV) (i j : Nat) (v : rV), (xargs as)[j]? = some (some v) → (i + j, xv ad v) ∈ lv_args i (as.map (xv ad))
  | [], _, j, v, h => by simp [xargs] at h
  | .inr (.inl y) :: vs, i, j, v, h => by
    match j, h with
    | 0, h =>
      simp only [xargs, List.getElem?_cons_zero, Option.some.injEq] at h
      subst h
      exact List.mem_cons_self
    | 1, h => simp [xargs] at h
    | j + 2, h =>
      simp only [xargs, List.getElem?_cons_succ] at h
      have h2 := xargs_at (ad := ad) vs (i + 2) j v h
      rw [show i + 2 + j = i + (j + 2) by omega] at h2
      exact List.mem_cons_of_mem _ h2
  | .inl x :: vs, i, j, v, h => by
    match j, h with
    | 0, h =>
      simp only [xargs, List.getElem?_cons_zero, Option.some.injEq] at h
      subst h
      exact List.mem_cons_self
    | j + 1, h =>
      simp only [xargs, List.getElem?_cons_succ] at h
      have h2 := xargs_at (ad := ad) vs (i + 1) j v h
      rw [show i + 1 + j = i + (j + 1) by omega] at h2
      exact List.mem_cons_of_mem _ h2
  | .inr (.inr k) :: vs, i, j, v, h => by
    match j, h with
    | 0, h =>
      simp only [xargs, List.getElem?_cons_zero, Option.some.injEq] at h
      subst h
      exact List.mem_cons_self
    | j + 1, h =>
      simp only [xargs, List.getElem?_cons_succ] at h
      have h2 := xargs_at (ad := ad) vs (i + 1) j v h
      rw [show i + 1 + j = i + (j + 1) by omega] at h2
      exact List.mem_cons_of_mem _ h2
theorem xL_entry {ad : Nat → Nat} {ls : Array Slot} {nL : Nat} {as : List rV} {L0 : List (Option rV)} (h : lv_has ls nL (lv_args 0 (as.map (xv ad)))) (hs : xsub L0 (xargs as)) : xL ad ls nL L0 :=
  ⟨h.1, h.2.1, fun i v hi => h.2.2 (i, xv ad v) (by have := xargs_at (ad := ad) as 0 i v (hs.at i v hi); rwa [Nat.zero_add] at this)⟩
def xsl (as : List rV) : Nat := (as.map fun v => match v with
  | .inr (.inl _) => 2
  | _ => 1).sum
theorem xsl_cons (v : rV) (vs : List rV) : xsl (v :: vs) = (match v with
  | .inr (.inl _) => 2
  | _ => 1) + xsl vs := by simp [xsl]
theorem xlg_cons (v : Value) (vs : List Value) : lg_sl (v :: vs) = (if v.category = 2 then [.val v, .second] else [.val v]) ++ lg_sl vs := rfl
theorem xsl_len (ad : Nat → Nat) : ∀ as : List rV, (lg_sl (as.map (xv ad))).length = xsl as
  | [] => rfl
  | .inl x :: vs => by rw [List.map_cons, xlg_cons, xsl_cons, List.length_append, xsl_len ad vs]; rfl
  | .inr (.inl x) :: vs => by rw [List.map_cons, xlg_cons, xsl_cons, List.length_append, xsl_len ad vs]; rfl
  | .inr (.inr x) :: vs => by rw [List.map_cons, xlg_cons, xsl_cons, List.length_append, xsl_len ad vs]; rfl
theorem xsl_cat (ad : Nat → Nat) : ∀ as : List rV, ((as.map (xv ad)).map fun v => v.category).sum = xsl as
  | [] => rfl
  | .inl x :: vs => by rw [List.map_cons, List.map_cons, List.sum_cons, xsl_cons, xsl_cat ad vs]; rfl
  | .inr (.inl x) :: vs => by rw [List.map_cons, List.map_cons, List.sum_cons, xsl_cons, xsl_cat ad vs]; rfl
  | .inr (.inr x) :: vs => by rw [List.map_cons, List.map_cons, List.sum_cons, xsl_cons, xsl_cat ad vs]; rfl
theorem xlw_ws {y : MethodName} {cc : ByteArray} {nL : Nat} {ret : Option FieldType} (h : Cond.code y cc nL ret ∈ lw_g) : GoodIn lw_g (xws y cc nL ret) := by
  intro w hw
  have hm : w ∈ lw_g := (List.mem_cons.mp hw).elim (fun e => e ▸ h) id
  exact ⟨hm, good_of_word (List.mem_filter.mp hm).2⟩
theorem xPc_blind {S : xS} {D : va_G} {cA : Nat → ClassId} {ad : Nat → Nat} {as : List rV} {M : xM} : FrameBlind (xPc S D cA ad as M) := by
  intro a U g mk q
  obtain ⟨q0, qP, qK, qZ⟩ := q
  exact ⟨q0, qP, va_K.moved (u := U) (U := U.calling g mk a) (Vm.Alike.refl U.vm) qK, qZ⟩
/-- behind a call -/
theorem xcall {S : xS} {D : va_G} {cA : Nat → ClassId} {ad : Nat → Nat} {r : Option Int32} {M' : xM} {p : Program} {l : Launch} {e : Env} {R : Room} {s : State} {m : MethodId} {args : Array Value} {below : List Frame} {meth : Method} {c : Code} {H : Heap} {locs : List Loc} {Q : State → Prop} {pc : Nat} {ls : Array Slot} {rest st0 : List Value} {a : Array Value}
    (hr : va_Run p l e R s m args below meth c H locs 0 0 0 0 (F0 m pc ls st0) rest (xQ S D cA ad r M' a) (xA S ad)) (hS : va_S (xA S ad) s.heap H locs)
    (kk : ∀ (H1 : Heap) (locs1 : List Loc), va_P D vwCl (xW S cA ad M') H1 → va_S (xA S ad) s.heap H1 locs1 → W p l e R s m args below meth c H1 locs1 0 0 Q (F0 m (pc + 3) ls ((r.map Value.int).toList ++ rest))) : W p l e R s m args below meth c H locs 0 0 Q (F0 m pc ls st0) := by
  intro T hT X
  obtain ⟨v, st₀, t, T', L, h0, X', hL, e1, e2, ⟨⟨hv, hP, hK⟩, hz, hk⟩, st⟩ := hr T hT X
  have hv' : v = r.map Value.int := by injection hv
  subst hv'
  rw [h0] at hz hk
  obtain ⟨t2, a1, b1⟩ := kk T'.heap (locs ++ L) (by rw [e1]; exact hP)
    ⟨Nat.le_trans hS.1 (by rw [e1]; exact hz), fun q h1 h2 => by rw [e1, hk q (Nat.lt_of_lt_of_le h1 hS.1) h2]; exact hS.2.1 q h1 h2, fun q hq => by
      rcases List.mem_append.mp hq with h | h
      · exact hS.2.2 q h
      · exact hL q h⟩ T' rfl X'
  exact ⟨t2, st t2 a1, b1⟩
