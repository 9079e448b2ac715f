section RULES2
variable {S : xS} {l : Launch} {own : String} {cc : ByteArray} {nL d : Nat} {ret : Option FieldType} {ρ : Type} {K : ρ → xO} {o o1 o2 : Option ρ} {pc : Nat} {L : List (Option rV)} {st : List rV} {M N : xM}
theorem xpite {c : Prop} [Decidable c] {a b : Int32} : (some (if c then a else b, N) : Option (Int32 × xM)) = if c then some (a, N) else some (b, N) := by split <;> rfl
theorem AW.ite_p {c : Prop} [Decidable c] {a b : Int32} (h1 : c → AW S l own cc nL ret d ki (some (a, N)) pc L st M) (h2 : ¬ c → AW S l own cc nL ret d ki (some (b, N)) pc L st M) : AW S l own cc nL ret d ki (some (if c then a else b, N)) pc L st M := (AW.ite h1 h2).eq xpite
theorem xne {x c : Int32} {k : Int} (hc : c.toInt = k) (h : ¬ x = c) : x.toInt ≠ k := fun e => h (Int32.toInt_inj.mp (e.trans hc.symm))
theorem A_if_eq_p {a b x : Int32} {off : Int} {tgt : Nat} (hdg : decode cc pc = .ok (.ifCond .eq off, 3)) (ht : (pc : Int) + off = (tgt : Int)) (k1 : x = 0 → AW S l own cc nL ret d ki (some (a, N)) tgt L st M) (k2 : ¬ (x = 0) → AW S l own cc nL ret d ki (some (b, N)) (pc + 3) L st M) : AW S l own cc nL ret d ki (some (if x = 0 then a else b, N)) pc L (xi x :: st) M := (A_if_eq hdg ht k1 k2).eq xpite
theorem A_if_lt_p {a b x : Int32} {off : Int} {tgt : Nat} (hdg : decode cc pc = .ok (.ifCond .lt off, 3)) (ht : (pc : Int) + off = (tgt : Int)) (k1 : x < 0 → AW S l own cc nL ret d ki (some (a, N)) tgt L st M) (k2 : ¬ (x < 0) → AW S l own cc nL ret d ki (some (b, N)) (pc + 3) L st M) : AW S l own cc nL ret d ki (some (if x < 0 then a else b, N)) pc L (xi x :: st) M := (A_if_lt hdg ht k1 k2).eq xpite
theorem A_if_ge_p {a b x : Int32} {off : Int} {tgt : Nat} (hdg : decode cc pc = .ok (.ifCond .ge off, 3)) (ht : (pc : Int) + off = (tgt : Int)) (k1 : 0 ≤ x → AW S l own cc nL ret d ki (some (a, N)) tgt L st M) (k2 : ¬ (0 ≤ x) → AW S l own cc nL ret d ki (some (b, N)) (pc + 3) L st M) : AW S l own cc nL ret d ki (some (if 0 ≤ x then a else b, N)) pc L (xi x :: st) M := (A_if_ge hdg ht k1 k2).eq xpite
theorem A_if_gt_p {a b x : Int32} {off : Int} {tgt : Nat} (hdg : decode cc pc = .ok (.ifCond .gt off, 3)) (ht : (pc : Int) + off = (tgt : Int)) (k1 : 0 < x → AW S l own cc nL ret d ki (some (a, N)) tgt L st M) (k2 : ¬ (0 < x) → AW S l own cc nL ret d ki (some (b, N)) (pc + 3) L st M) : AW S l own cc nL ret d ki (some (if 0 < x then a else b, N)) pc L (xi x :: st) M := (A_if_gt hdg ht k1 k2).eq xpite
theorem A_if_le_p {a b x : Int32} {off : Int} {tgt : Nat} (hdg : decode cc pc = .ok (.ifCond .le off, 3)) (ht : (pc : Int) + off = (tgt : Int)) (k1 : x ≤ 0 → AW S l own cc nL ret d ki (some (a, N)) tgt L st M) (k2 : ¬ (x ≤ 0) → AW S l own cc nL ret d ki (some (b, N)) (pc + 3) L st M) : AW S l own cc nL ret d ki (some (if x ≤ 0 then a else b, N)) pc L (xi x :: st) M := (A_if_le hdg ht k1 k2).eq xpite
theorem A_icmp_eq_p {a b x y : Int32} {off : Int} {tgt : Nat} (hdg : decode cc pc = .ok (.if_icmp .eq off, 3)) (ht : (pc : Int) + off = (tgt : Int)) (k1 : x = y → AW S l own cc nL ret d ki (some (a, N)) tgt L st M) (k2 : ¬ (x = y) → AW S l own cc nL ret d ki (some (b, N)) (pc + 3) L st M) : AW S l own cc nL ret d ki (some (if x = y then a else b, N)) pc L (xi y :: xi x :: st) M := (A_icmp_eq hdg ht k1 k2).eq xpite
theorem A_icmp_lt_p {a b x y : Int32} {off : Int} {tgt : Nat} (hdg : decode cc pc = .ok (.if_icmp .lt off, 3)) (ht : (pc : Int) + off = (tgt : Int)) (k1 : x < y → AW S l own cc nL ret d ki (some (a, N)) tgt L st M) (k2 : ¬ (x < y) → AW S l own cc nL ret d ki (some (b, N)) (pc + 3) L st M) : AW S l own cc nL ret d ki (some (if x < y then a else b, N)) pc L (xi y :: xi x :: st) M := (A_icmp_lt hdg ht k1 k2).eq xpite
theorem A_icmp_ge_p {a b x y : Int32} {off : Int} {tgt : Nat} (hdg : decode cc pc = .ok (.if_icmp .ge off, 3)) (ht : (pc : Int) + off = (tgt : Int)) (k1 : y ≤ x → AW S l own cc nL ret d ki (some (a, N)) tgt L st M) (k2 : ¬ (y ≤ x) → AW S l own cc nL ret d ki (some (b, N)) (pc + 3) L st M) : AW S l own cc nL ret d ki (some (if y ≤ x then a else b, N)) pc L (xi y :: xi x :: st) M := (A_icmp_ge hdg ht k1 k2).eq xpite
theorem A_icmp_gt_p {a b x y : Int32} {off : Int} {tgt : Nat} (hdg : decode cc pc = .ok (.if_icmp .gt off, 3)) (ht : (pc : Int) + off = (tgt : Int)) (k1 : y < x → AW S l own cc nL ret d ki (some (a, N)) tgt L st M) (k2 : ¬ (y < x) → AW S l own cc nL ret d ki (some (b, N)) (pc + 3) L st M) : AW S l own cc nL ret d ki (some (if y < x then a else b, N)) pc L (xi y :: xi x :: st) M := (A_icmp_gt hdg ht k1 k2).eq xpite
theorem A_icmp_le_p {a b x y : Int32} {off : Int} {tgt : Nat} (hdg : decode cc pc = .ok (.if_icmp .le off, 3)) (ht : (pc : Int) + off = (tgt : Int)) (k1 : x ≤ y → AW S l own cc nL ret d ki (some (a, N)) tgt L st M) (k2 : ¬ (x ≤ y) → AW S l own cc nL ret d ki (some (b, N)) (pc + 3) L st M) : AW S l own cc nL ret d ki (some (if x ≤ y then a else b, N)) pc L (xi y :: xi x :: st) M := (A_icmp_le hdg ht k1 k2).eq xpite
theorem A_if_ne_p {a b x : Int32} {off : Int} {tgt : Nat} (hdg : decode cc pc = .ok (.ifCond .ne off, 3)) (ht : (pc : Int) + off = (tgt : Int)) (k2 : x = 0 → AW S l own cc nL ret d ki (some (a, N)) (pc + 3) L st M) (k1 : ¬ x = 0 → AW S l own cc nL ret d ki (some (b, N)) tgt L st M) : AW S l own cc nL ret d ki (some (if x = 0 then a else b, N)) pc L (xi x :: st) M := (A_if_ne hdg ht k2 k1).eq xpite
theorem A_icmp_ne_p {a b x y : Int32} {off : Int} {tgt : Nat} (hdg : decode cc pc = .ok (.if_icmp .ne off, 3)) (ht : (pc : Int) + off = (tgt : Int)) (k2 : x = y → AW S l own cc nL ret d ki (some (a, N)) (pc + 3) L st M) (k1 : ¬ x = y → AW S l own cc nL ret d ki (some (b, N)) tgt L st M) : AW S l own cc nL ret d ki (some (if x = y then a else b, N)) pc L (xi y :: xi x :: st) M := (A_icmp_ne hdg ht k2 k1).eq xpite
variable {index maxL dd n ci q : Nat} {y : MethodName} {bytes : ByteArray} {rt : Option FieldType} {as rest : List rV} {ks : List Nat}
/-- calls that write nothing and always answer -/
theorem A_callSp {v : Int32} (hM : AM S l y bytes maxL rt dd ki as M (some (v, M))) (hk : xlS own index y bytes maxL rt n) (hn : as.length = n) (hd : dd + 1 ≤ d) (hW : xsl rest ≤ 8) (hst : st = as.reverse ++ rest) (hdg : decode cc pc = .ok (.invokestatic index, 3))
    (kk : AW S l own cc nL ret d K o (pc + 3) L (xi v :: rest) M) : AW S l own cc nL ret d K o pc L st M := A_callSi (k := fun _ => o) hM hk hn hd hW hst hdg (fun v' M' h => by cases h; exact kk)
theorem A_callVp {v : Int32} (hM : AM S l y bytes maxL rt dd ki (xr q :: as) M (some (v, M))) (hk : xlV own index y bytes maxL rt n ci) (hq : S[q]? = some (.inr (ci, ks))) (hn : as.length = n) (hd : dd + 1 ≤ d) (hW : xsl rest ≤ 8) (hst : st = as.reverse ++ xr q :: rest) (hdg : decode cc pc = .ok (.invokevirtual index, 3))
    (kk : AW S l own cc nL ret d K o (pc + 3) L (xi v :: rest) M) : AW S l own cc nL ret d K o pc L st M := A_callVi (k := fun _ => o) hM hk hq hn hd hW hst hdg (fun v' M' h => by cases h; exact kk)
def jmax (x y : Int32) : Int32 := if x < y then y else x
def jmin (x y : Int32) : Int32 := if y < x then y else x
def jmaxl (x y : Int64) : Int64 := if y < x then x else y
def jminl (x y : Int64) : Int64 := if y < x then y else x
theorem A_jmax {x y : Int32} (hk : xlS own index Lib.Math.max.name Lib.Math.max.code 2 (some .int) 2) (hd : 1 ≤ d) (hW : xsl st ≤ 8) (hdg : decode cc pc = .ok (.invokestatic index, 3)) (k : AW S l own cc nL ret d K o (pc + 3) L (xi (jmax x y) :: st) M) : AW S l own cc nL ret d K o pc L (xi y :: xi x :: st) M :=
  k.step fun D cA ad p e s m args below meth c H locs ls Q hC hH hl hx hb k => va_mmax hx hb (hC.1.2.2.1.trans hl.1.symm) hC.1.2.2.2.1 (hC.1.2.2.2.2 _ hk.1.1) (hC.1.2.2.2.2 _ hk.2) (hC.1.2.2.2.2 _ hk.1.2.1) (hC.1.2.2.2.2 _ hk.1.2.2.1) (by simp only [xRm]; omega) (by rw [xsl_cat]; simp only [xRm]; omega) (Nat.zero_le _) (Nat.zero_le _) hdg k
theorem A_jmin {x y : Int32} (hk : xlS own index Lib.Math.min.name Lib.Math.min.code 2 (some .int) 2) (hd : 1 ≤ d) (hW : xsl st ≤ 8) (hdg : decode cc pc = .ok (.invokestatic index, 3)) (k : AW S l own cc nL ret d K o (pc + 3) L (xi (jmin x y) :: st) M) : AW S l own cc nL ret d K o pc L (xi y :: xi x :: st) M :=
  k.step fun D cA ad p e s m args below meth c H locs ls Q hC hH hl hx hb k => va_mmin hx hb (hC.1.2.2.1.trans hl.1.symm) hC.1.2.2.2.1 (hC.1.2.2.2.2 _ hk.1.1) (hC.1.2.2.2.2 _ hk.2) (hC.1.2.2.2.2 _ hk.1.2.1) (hC.1.2.2.2.2 _ hk.1.2.2.1) (by simp only [xRm]; omega) (by rw [xsl_cat]; simp only [xRm]; omega) (Nat.zero_le _) (Nat.zero_le _) hdg k
theorem A_jmaxl {x y : Int64} (hk : xlS own index Lib.MathLoose.max_long.x Lib.MathLoose.max_long.code 4 (some .long) 2) (hd : 1 ≤ d) (hW : xsl st ≤ 8) (hdg : decode cc pc = .ok (.invokestatic index, 3)) (k : AW S l own cc nL ret d K o (pc + 3) L (xl (jmaxl x y) :: st) M) : AW S l own cc nL ret d K o pc L (xl y :: xl x :: st) M :=
  k.step fun D cA ad p e s m args below meth c H locs ls Q hC hH hl hx hb k => va_mmax_long hx hb (hC.1.2.2.1.trans hl.1.symm) hC.1.2.2.2.1 (hC.1.2.2.2.2 _ hk.1.1) (hC.1.2.2.2.2 _ hk.2) (hC.1.2.2.2.2 _ hk.1.2.1) (hC.1.2.2.2.2 _ hk.1.2.2.1) (by simp only [xRm]; omega) (by rw [xsl_cat]; simp only [xRm]; omega) (Nat.zero_le _) (Nat.zero_le _) hdg k
theorem A_jminl {x y : Int64} (hk : xlS own index Lib.MathLoose.min_long.x Lib.MathLoose.min_long.code 4 (some .long) 2) (hd : 1 ≤ d) (hW : xsl st ≤ 8) (hdg : decode cc pc = .ok (.invokestatic index, 3)) (k : AW S l own cc nL ret d K o (pc + 3) L (xl (jminl x y) :: st) M) : AW S l own cc nL ret d K o pc L (xl y :: xl x :: st) M :=
  k.step fun D cA ad p e s m args below meth c H locs ls Q hC hH hl hx hb k => va_mmin_long hx hb (hC.1.2.2.1.trans hl.1.symm) hC.1.2.2.2.1 (hC.1.2.2.2.2 _ hk.1.1) (hC.1.2.2.2.2 _ hk.2) (hC.1.2.2.2.2 _ hk.1.2.1) (hC.1.2.2.2.2 _ hk.1.2.2.1) (by simp only [xRm]; omega) (by rw [xsl_cat]; simp only [xRm]; omega) (Nat.zero_le _) (Nat.zero_le _) hdg k
/-- an array whose cell is told by a number -/
def xlen (S : xS) (t k : Nat) : Option Nat := match S[k]? with
  | some (.inl q) => if q.1 = t then some q.2 else none
  | _ => none
theorem xlen_some {S : xS} {t k n : Nat} (h : xlen S t k = some n) : S[k]? = some (.inl (t, n)) := by
  unfold xlen at h
  split at h
  · rename_i q hq
    split at h
    · rename_i ht
      cases h
      rw [hq, ← ht]
    · cases h
  · cases h
theorem A_xlen {t r : Nat} {k : Nat → Option ρ} (kk : ∀ n, S[r]? = some (.inl (t, n)) → AW S l own cc nL ret d K (k n) pc L st M) : AW S l own cc nL ret d K ((xlen S t r).bind k) pc L st M := by
  intro q0 ho D cA ad p e s m args below meth c H locs ls hC hH hl
  obtain ⟨n, h1, h2⟩ := Option.bind_eq_some_iff.mp ho
  exact kk n (xlen_some h1) q0 h2 D cA ad p e s m args below meth c H locs ls hC hH hl
theorem A_putw' {index q ci j q2 t n : Nat} {ks : List Nat} {ty : FieldType} (hf : xfl own index ci j (.array ty) false) (hq : S[q]? = some (.inr (ci, ks))) (hj : ks[j]? = some 1) (hq2 : S[q2]? = some (.inl (t, n))) (hS : S.length < 1000) (hdg : decode cc pc = .ok (.putfield index, 3)) (k : AW S l own cc nL ret d K o (pc + 3) L st (xset M q j (nI q2))) : AW S l own cc nL ret d K o pc L (xr q2 :: xr q :: st) M := A_putw hf hq hj (by have := (List.getElem?_eq_some_iff.mp hq2).1; omega) hdg k
theorem xat_in {x : Int32} {n : Nat} (h0 : ¬ x < 0) (h : ¬ Int32.ofNat n ≤ x) : ¬ (x < 0 ∨ n ≤ x.toNatClampNeg) := by
  rintro (h1 | h1)
  · exact h0 h1
  · apply h
    obtain ⟨j, hj, rfl⟩ := nI_of h0
    rw [nI_clamp hj] at h1
    rw [Int32.le_iff_toInt_le, nI_toInt hj]
    have : (Int32.ofNat n).toInt = (n : Int) := nI_toInt (by omega)
    omega
end RULES2
theorem Met.ofWF {l : Launch} {y : MethodName} {ws ws' : List Cond} {rm : Room} {Pc : Array Value → State → Prop} {Qc : Array Value → State → Outcome → State → Prop} {mc ms : Nat} {free : Addr → Prop} {cc : ByteArray} {maxL : Nat} {ret : Option FieldType}
    (hy : plainFor y = true) (hw : ws = Cond.code y cc maxL ret :: ws')
    (body : ∀ p e s m args below meth c s₁, BodyLoose p l y (headSpec ws rm) cc maxL ret e s m args below meth c s₁ → c.maxLocals = maxL → Pc args s →
      W p l e (headSpec ws rm).room s m args below meth c s.heap [] 0 0 (MQ below Qc args s mc ms free) (entryFrame m args maxL)) : Met l y ws rm Pc Qc mc ms free := by
  refine MetFree.of_bodySF (code := cc) (maxLocals := maxL) (ret := ret) hy ?_ ?_
  · intro args s m h hn
    obtain ⟨meth, c, h1, h2, h3, h4, h5, h6, -, -⟩ := Cond.code_spec hn (atoms_spec (ws := ws) h _ (by rw [hw]; exact List.mem_cons_self))
    exact ⟨meth, c, h1, h2, h3, h4, h5, h6⟩
  · intro p e s m args below meth c s₁ B hml hP _
    have hh0 : s₁.heap = s.heap := by rw [B.state]; rfl
    obtain ⟨t, a1, o, b1, b2, b3⟩ := body p e s m args below meth c s₁ B hml hP s₁ hh0 (Stand.of_body B)
    exact ⟨t, o, a1, b1, b2, ⟨b3.1, b3.2⟩⟩
theorem AM.ofF {S : xS} {l : Launch} {own : String} {cc : ByteArray} {nL d : Nat} {ret : Option FieldType} {ρ : Type} {K : ρ → xO} {o : Option ρ} {M : xM} {y : MethodName} {as : List rV} {L0 : List (Option rV)} (h : AW S l own cc nL ret d K o 0 L0 [] M) (hy : plainFor y = true) (hown : y.cls = own) (hlen : xsl as ≤ nL) (hs : xsub L0 (xargs as)) : AM S l y cc nL ret d K as M o := by
  intro q0 ho D cA ad hap
  refine Met.ofWF (cc := cc) (maxL := nL) (ret := ret) hy rfl ?_
  intro p e s m args below meth c s₁ B hml hv
  obtain ⟨rfl, hP, hK, hZ⟩ := hv
  have hts0 := atoms_spec (ws := xws y cc nL ret) B.pre
  have hown' : s.vm.findClass own = some m.cls := by rw [← hown]; exact findClass_of_methodNamed B.named
  have hlen' : (lg_sl (as.map (xv ad))).length ≤ nL := by rw [xsl_len]; exact hlen
  rw [lg_entry_eq]
  have hl := lv_entry (as.map (xv ad)) hlen'
  exact h q0 ho D cA ad p e s m _ below meth c s.heap [] _ ⟨⟨B.exec, B.bytes, hml, hown', fun w hw => hts0 w (List.mem_cons_of_mem _ hw)⟩, hK, hap, B.returns, B.notSynchronized, hZ⟩ ⟨hP, va_S.rf⟩ (xL_entry hl hs)
section LDCS
variable {S : xS} {l : Launch} {cc : ByteArray} {nL d : Nat} {ret : Option FieldType} {ρ : Type} {K : ρ → xO} {o : Option ρ} {pc : Nat} {L : List (Option rV)} {st : List rV} {M : xM}
theorem A_ldcS0 (hdg : decode cc pc = .ok (.ldc 49, 2)) (k : AW S l RX12 cc nL ret d K o (pc + 2) L (xr 1000 :: st) M) : AW S l RX12 cc nL ret d K o pc L st M :=
  k.step fun D cA ad p e s m args below meth c H locs ls Q hC hH hl hx hb k => by
    exact va_ldcS (own := RX12) (tx := "y") (q := ad 1000) hx hb hC.1.2.2.2.1 hC.2.2.2.2.2.2.1 hdg k
theorem A_ldcS1 (hdg : decode cc pc = .ok (.ldc 55, 2)) (k : AW S l RX12 cc nL ret d K o (pc + 2) L (xr 1001 :: st) M) : AW S l RX12 cc nL ret d K o pc L st M :=
  k.step fun D cA ad p e s m args below meth c H locs ls Q hC hH hl hx hb k => by
    exact va_ldcS (own := RX12) (tx := "sxfwp") (q := ad 1001) hx hb hC.1.2.2.2.1 hC.2.2.2.2.2.2.2.1 hdg k
end LDCS
abbrev SC : xS := [.inr (10, [3, 4, 5, 7, 8, 9, 10, 11, 12]), .inr (0, [0, 0, 0, 13, 14, 15, 16, 0, 0, 0, 0, 0, 0, 17, 18]), .inr (8, [19, 0]), .inr (3, [0, 0, 20, 21, 6]), .inr (2, [0, 22, 23, 0, 0]), .inr (4, [3, 0, 24, 25, 26, 27, 28, 29, 30, 31, 32, 33, 34]), .inr (1, [3, 7, 35, 36, 37, 38, 39, 40, 0, 0]), .inr (7, [3, 7, 8, 41, 42, 43, 44]), .inr (9, [3, 7, 0, 45, 46, 47]), .inr (5, [0, 0, 48, 49, 50, 51, 52, 53]), .inr (6, [54, 55, 56, 57, 0, 0]), .inl (0, 6), .inl (0, 6), .inl (0, 10), .inl (0, 10), .inl (0, 1024), .inl (0, 16), .inl (0, 120), .inl (0, 480), .inl (0, 4), .inl (0, 120), .inl (0, 5), .inl (0, 30), .inl (0, 6), .inl (0, 6), .inl (0, 6), .inl (0, 96), .inl (0, 6), .inl (0, 48), .inl (0, 48), .inl (0, 48), .inl (0, 96), .inl (0, 768), .inl (0, 16), .inl (0, 16), .inl (0, 16), .inl (0, 16), .inl (0, 16), .inl (0, 16), .inl (0, 1536), .inl (0, 1536), .inl (0, 16), .inl (0, 16), .inl (0, 8), .inl (0, 8), .inl (0, 8), .inl (0, 64), .inl (0, 8), .inl (0, 960), .inl (0, 120), .inl (0, 960), .inl (0, 9), .inl (0, 6), .inl (0, 120), .inl (0, 120), .inl (0, 120)]
abbrev SM : xS := [.inr (11, [0, 0, 3, 4, 5, 6, 7, 0, 0, 8, 9, 10, 11, 12, 1, 0, 0, 0, 0, 0, 0, 0, 0, 0, 0, 1002, 1003, 0, 13, 14, 15, 16, 0, 17, 18, 19, 20, 21, 22, 23, 24, 25, 0, 0, 0, 26, 27, 28, 29, 0, 30, 31, 32, 0, 33, 34, 35, 36, 0, 0, 37, 38, 39, 40, 41, 42, 43, 44, 45, 0, 46, 47]), .inl (0, 6), .inl (0, 6), .inl (0, 16), .inl (0, 10), .inl (0, 10), .inl (2, 1024), .inl (1, 120), .inl (1, 480), .inl (0, 4), .inl (0, 128), .inl (0, 30), .inl (0, 96), .inl (0, 6), .inl (0, 6), .inl (0, 6), .inl (0, 48), .inl (0, 48), .inl (0, 48), .inl (0, 16), .inl (0, 16), .inl (0, 16), .inl (0, 16), .inl (2, 16), .inl (0, 96), .inl (0, 96), .inl (0, 8), .inl (0, 8), .inl (0, 16), .inl (0, 8), .inl (0, 16), .inl (1, 64), .inl (1, 960), .inl (0, 8), .inl (0, 120), .inl (0, 81), .inl (0, 16), .inl (0, 16), .inl (0, 6), .inl (0, 120), .inl (0, 120), .inl (0, 120), .inl (2, 21), .inl (0, 21), .inl (0, 96), .inl (0, 768)]
theorem xin_X0 : ∀ w ∈ u_ws RX0 TX0 15, w ∈ lw_g := by decide +kernel
theorem xc_X0 : xcls 0 RX0 TX0 15 tyX0 := ⟨rfl, xin_X0, tyX0_ok, nmX0⟩
theorem xin_X2 : ∀ w ∈ u_ws RX2 TX2 10, w ∈ lw_g := by decide +kernel
theorem xc_X2 : xcls 1 RX2 TX2 10 tyX2 := ⟨rfl, xin_X2, tyX2_ok, nmX2⟩
theorem xin_X3 : ∀ w ∈ u_ws RX3 TX3 5, w ∈ lw_g := by decide +kernel
theorem xc_X3 : xcls 2 RX3 TX3 5 tyX3 := ⟨rfl, xin_X3, tyX3_ok, nmX3⟩
theorem xin_X4 : ∀ w ∈ u_ws RX4 TX4 5, w ∈ lw_g := by decide +kernel
theorem xc_X4 : xcls 3 RX4 TX4 5 tyX4 := ⟨rfl, xin_X4, tyX4_ok, nmX4⟩
theorem xin_X5 : ∀ w ∈ u_ws RX5 TX5 13, w ∈ lw_g := by decide +kernel
theorem xc_X5 : xcls 4 RX5 TX5 13 tyX5 := ⟨rfl, xin_X5, tyX5_ok, nmX5⟩
theorem xin_X6 : ∀ w ∈ u_ws RX6 TX6 8, w ∈ lw_g := by decide +kernel
theorem xc_X6 : xcls 5 RX6 TX6 8 tyX6 := ⟨rfl, xin_X6, tyX6_ok, nmX6⟩
theorem xin_X7 : ∀ w ∈ u_ws RX7 TX7 6, w ∈ lw_g := by decide +kernel
theorem xc_X7 : xcls 6 RX7 TX7 6 tyX7 := ⟨rfl, xin_X7, tyX7_ok, nmX7⟩
theorem xin_X8 : ∀ w ∈ u_ws RX8 TX8 7, w ∈ lw_g := by decide +kernel
theorem xc_X8 : xcls 7 RX8 TX8 7 tyX8 := ⟨rfl, xin_X8, tyX8_ok, nmX8⟩
theorem xin_X9 : ∀ w ∈ u_ws RX9 TX9 2, w ∈ lw_g := by decide +kernel
theorem xc_X9 : xcls 8 RX9 TX9 2 tyX9 := ⟨rfl, xin_X9, tyX9_ok, nmX9⟩
theorem xin_X10 : ∀ w ∈ u_ws RX10 TX10 6, w ∈ lw_g := by decide +kernel
theorem xc_X10 : xcls 9 RX10 TX10 6 tyX10 := ⟨rfl, xin_X10, tyX10_ok, nmX10⟩
theorem xin_X11 : ∀ w ∈ u_ws RX11 TX11 9, w ∈ lw_g := by decide +kernel
theorem xc_X11 : xcls 10 RX11 TX11 9 tyX11 := ⟨rfl, xin_X11, tyX11_ok, nmX11⟩
theorem xin_X12 : ∀ w ∈ u_ws RX12 TX12 72, w ∈ lw_g := by decide +kernel
theorem xc_X12 : xcls 11 RX12 TX12 72 tyX12 := ⟨rfl, xin_X12, tyX12_ok, nmX12⟩
