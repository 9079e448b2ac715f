theorem dJ0_length_8abf5_0 : decode cJ0_length_8abf5 0 = .ok (.aload_n 0, 1) := by decide +kernel
theorem dJ0_length_8abf5_1 : decode cJ0_length_8abf5 1 = .ok (.getfield 9, 3) := by decide +kernel
theorem dJ0_length_8abf5_4 : decode cJ0_length_8abf5 4 = .ok (.arraylength, 1) := by decide +kernel
theorem dJ0_length_8abf5_5 : decode cJ0_length_8abf5 5 = .ok (.aload_n 0, 1) := by decide +kernel
theorem dJ0_length_8abf5_6 : decode cJ0_length_8abf5 6 = .ok (.invokevirtual 335, 3) := by decide +kernel
theorem dJ0_length_8abf5_9 : decode cJ0_length_8abf5 9 = .ok (.ishr, 1) := by decide +kernel
theorem dJ0_length_8abf5_10 : decode cJ0_length_8abf5 10 = .ok (.ireturn, 1) := by decide +kernel
theorem dJ0_charAt_5068e_0 : decode cJ0_charAt_5068e 0 = .ok (.aload_n 0, 1) := by decide +kernel
theorem dJ0_charAt_5068e_1 : decode cJ0_charAt_5068e 1 = .ok (.invokevirtual 492, 3) := by decide +kernel
theorem dJ0_charAt_5068e_4 : decode cJ0_charAt_5068e 4 = .ok (.ifCond .eq 12, 3) := by decide +kernel
theorem dJ0_charAt_5068e_7 : decode cJ0_charAt_5068e 7 = .ok (.aload_n 0, 1) := by decide +kernel
theorem dJ0_charAt_5068e_8 : decode cJ0_charAt_5068e 8 = .ok (.getfield 9, 3) := by decide +kernel
theorem dJ0_charAt_5068e_11 : decode cJ0_charAt_5068e 11 = .ok (.iload_n 1, 1) := by decide +kernel
theorem dJ0_charAt_5068e_12 : decode cJ0_charAt_5068e 12 = .ok (.invokestatic 495, 3) := by decide +kernel
theorem dJ0_charAt_5068e_15 : decode cJ0_charAt_5068e 15 = .ok (.ireturn, 1) := by decide +kernel
theorem dJ0_charAt_5068e_16 : decode cJ0_charAt_5068e 16 = .ok (.aload_n 0, 1) := by decide +kernel
theorem dJ0_charAt_5068e_17 : decode cJ0_charAt_5068e 17 = .ok (.getfield 9, 3) := by decide +kernel
theorem dJ0_charAt_5068e_20 : decode cJ0_charAt_5068e 20 = .ok (.iload_n 1, 1) := by decide +kernel
theorem dJ0_charAt_5068e_21 : decode cJ0_charAt_5068e 21 = .ok (.invokestatic 498, 3) := by decide +kernel
theorem dJ0_charAt_5068e_24 : decode cJ0_charAt_5068e 24 = .ok (.ireturn, 1) := by decide +kernel
theorem dJ0_coder_7d493_0 : decode cJ0_coder_7d493 0 = .ok (.getstatic 38, 3) := by decide +kernel
theorem dJ0_coder_7d493_3 : decode cJ0_coder_7d493 3 = .ok (.ifCond .eq 10, 3) := by decide +kernel
theorem dJ0_coder_7d493_6 : decode cJ0_coder_7d493 6 = .ok (.aload_n 0, 1) := by decide +kernel
theorem dJ0_coder_7d493_7 : decode cJ0_coder_7d493 7 = .ok (.getfield 15, 3) := by decide +kernel
theorem dJ0_coder_7d493_10 : decode cJ0_coder_7d493 10 = .ok (.goto 4, 3) := by decide +kernel
theorem dJ0_coder_7d493_13 : decode cJ0_coder_7d493 13 = .ok (.iconst 1, 1) := by decide +kernel
theorem dJ0_coder_7d493_14 : decode cJ0_coder_7d493 14 = .ok (.ireturn, 1) := by decide +kernel
theorem dJ0_isLatin1_aae02_0 : decode cJ0_isLatin1_aae02 0 = .ok (.getstatic 38, 3) := by decide +kernel
theorem dJ0_isLatin1_aae02_3 : decode cJ0_isLatin1_aae02 3 = .ok (.ifCond .eq 14, 3) := by decide +kernel
theorem dJ0_isLatin1_aae02_6 : decode cJ0_isLatin1_aae02 6 = .ok (.aload_n 0, 1) := by decide +kernel
theorem dJ0_isLatin1_aae02_7 : decode cJ0_isLatin1_aae02 7 = .ok (.getfield 15, 3) := by decide +kernel
theorem dJ0_isLatin1_aae02_10 : decode cJ0_isLatin1_aae02 10 = .ok (.ifCond .ne 7, 3) := by decide +kernel
theorem dJ0_isLatin1_aae02_13 : decode cJ0_isLatin1_aae02 13 = .ok (.iconst 1, 1) := by decide +kernel
theorem dJ0_isLatin1_aae02_14 : decode cJ0_isLatin1_aae02 14 = .ok (.goto 4, 3) := by decide +kernel
theorem dJ0_isLatin1_aae02_17 : decode cJ0_isLatin1_aae02 17 = .ok (.iconst 0, 1) := by decide +kernel
theorem dJ0_isLatin1_aae02_18 : decode cJ0_isLatin1_aae02 18 = .ok (.ireturn, 1) := by decide +kernel
theorem dJ0_checkIndex_df160_0 : decode cJ0_checkIndex_df160 0 = .ok (.iload_n 0, 1) := by decide +kernel
theorem dJ0_checkIndex_df160_1 : decode cJ0_checkIndex_df160 1 = .ok (.iload_n 1, 1) := by decide +kernel
theorem dJ0_checkIndex_df160_2 : decode cJ0_checkIndex_df160 2 = .ok (.getstatic 1053, 3) := by decide +kernel
theorem dJ0_checkIndex_df160_5 : decode cJ0_checkIndex_df160 5 = .ok (.invokestatic 1059, 3) := by decide +kernel
theorem dJ0_checkIndex_df160_8 : decode cJ0_checkIndex_df160 8 = .ok (.pop, 1) := by decide +kernel
theorem dJ0_checkIndex_df160_9 : decode cJ0_checkIndex_df160 9 = .ok (.return_, 1) := by decide +kernel
theorem dJ1_charAt_3b067_0 : decode cJ1_charAt_3b067 0 = .ok (.iload_n 1, 1) := by decide +kernel
theorem dJ1_charAt_3b067_1 : decode cJ1_charAt_3b067 1 = .ok (.aload_n 0, 1) := by decide +kernel
theorem dJ1_charAt_3b067_2 : decode cJ1_charAt_3b067 2 = .ok (.arraylength, 1) := by decide +kernel
theorem dJ1_charAt_3b067_3 : decode cJ1_charAt_3b067 3 = .ok (.invokestatic 9, 3) := by decide +kernel
theorem dJ1_charAt_3b067_6 : decode cJ1_charAt_3b067 6 = .ok (.aload_n 0, 1) := by decide +kernel
theorem dJ1_charAt_3b067_7 : decode cJ1_charAt_3b067 7 = .ok (.iload_n 1, 1) := by decide +kernel
theorem dJ1_charAt_3b067_8 : decode cJ1_charAt_3b067 8 = .ok (.baload, 1) := by decide +kernel
theorem dJ1_charAt_3b067_9 : decode cJ1_charAt_3b067 9 = .ok (.sipush 255, 3) := by decide +kernel
theorem dJ1_charAt_3b067_12 : decode cJ1_charAt_3b067 12 = .ok (.iand, 1) := by decide +kernel
theorem dJ1_charAt_3b067_13 : decode cJ1_charAt_3b067 13 = .ok (.i2c, 1) := by decide +kernel
theorem dJ1_charAt_3b067_14 : decode cJ1_charAt_3b067 14 = .ok (.ireturn, 1) := by decide +kernel
theorem dJ3_checkIndex_8e157_0 : decode cJ3_checkIndex_8e157 0 = .ok (.iload_n 0, 1) := by decide +kernel
theorem dJ3_checkIndex_8e157_1 : decode cJ3_checkIndex_8e157 1 = .ok (.ifCond .lt 8, 3) := by decide +kernel
theorem dJ3_checkIndex_8e157_4 : decode cJ3_checkIndex_8e157 4 = .ok (.iload_n 0, 1) := by decide +kernel
theorem dJ3_checkIndex_8e157_5 : decode cJ3_checkIndex_8e157 5 = .ok (.iload_n 1, 1) := by decide +kernel
theorem dJ3_checkIndex_8e157_6 : decode cJ3_checkIndex_8e157 6 = .ok (.if_icmp .lt 10, 3) := by decide +kernel
theorem dJ3_checkIndex_8e157_9 : decode cJ3_checkIndex_8e157 9 = .ok (.aload_n 2, 1) := by decide +kernel
theorem dJ3_checkIndex_8e157_10 : decode cJ3_checkIndex_8e157 10 = .ok (.iload_n 0, 1) := by decide +kernel
theorem dJ3_checkIndex_8e157_11 : decode cJ3_checkIndex_8e157 11 = .ok (.iload_n 1, 1) := by decide +kernel
theorem dJ3_checkIndex_8e157_12 : decode cJ3_checkIndex_8e157 12 = .ok (.invokestatic 95, 3) := by decide +kernel
theorem dJ3_checkIndex_8e157_15 : decode cJ3_checkIndex_8e157 15 = .ok (.athrow, 1) := by decide +kernel
theorem dJ3_checkIndex_8e157_16 : decode cJ3_checkIndex_8e157 16 = .ok (.iload_n 0, 1) := by decide +kernel
theorem dJ3_checkIndex_8e157_17 : decode cJ3_checkIndex_8e157 17 = .ok (.ireturn, 1) := by decide +kernel
section TEXTS
variable {S : xS} {l : Launch} {own : String} {cc : ByteArray} {nL d : Nat} {ret : Option FieldType} {ρ : Type} {K : ρ → xO} {o : Option ρ} {pc : Nat} {L : List (Option rV)} {st : List rV} {M : xM}
def tx_b : List (List Int32) := [[121], [115, 120, 102, 119, 112]]
def tx_n : List Nat := [1, 5]
theorem A_tret {v : Int32} {ty : FieldType} (hr : ret = some ty) (hn : narrow ty (.int v) = .int v) (hdg : decode cc pc = .ok (.ireturn, 1)) : AW S l own cc nL ret d ki (some (v, M)) pc L [xi v] M := by
  intro q0 ho D cA ad p e s m args below meth c H locs ls hC hH hl
  cases ho
  subst hr
  exact W.zret hC.1.1 hC.1.2.1 hC.2.2.2.1 hn (fun t ht hW => ⟨⟨rfl, by rw [ht]; exact hH.1, va_K.moved hW.alike hC.2.1⟩, hH.2.F ht⟩) hH.2.2.2 hdg hC.2.2.2.2.1
theorem A_i2c {x : Int32} (hdg : decode cc pc = .ok (.i2c, 1)) (k : AW S l own cc nL ret d K o (pc + 1) L (xi (x.toUInt32 % 65536).toInt32 :: st) M) : AW S l own cc nL ret d K o pc L (xi x :: st) M :=
  k.step fun D cA ad p e s m args below meth c H locs ls Q hC hH hl hx hb k => lv_i2c hx hb hdg rfl k
theorem A_compact {index : Nat} (hlk : Cond.fieldLink own index "java/lang/String" "COMPACT_STRINGS" "Z" ∈ lw_g) (hdg : decode cc pc = .ok (.getstatic index, 3)) (k : AW S l own cc nL ret d K o (pc + 3) L (xi 1 :: st) M) : AW S l own cc nL ret d K o pc L st M :=
  k.step fun D cA ad p e s m args below meth c H locs ls Q hC hH hl hx hb k => va_gets (C := "java/lang/String") (n := "COMPACT_STRINGS") (d := "Z") (v := .int 1) (ref := "java/lang/String") hx hb hC.2.2.2.2.2.2.2.2.1 hH.2 hC.1.2.2.2.1 (hC.1.2.2.2.2 _ hlk) (fun _ h => h) hdg k
theorem A_strval {index i : Nat} (hi : i < 2) (hlk : Cond.fieldLink own index "java/lang/String" "value" "[B" ∈ lw_g) (hdg : decode cc pc = .ok (.getfield index, 3)) (k : AW S l own cc nL ret d K o (pc + 3) L (xr (1010 + i) :: st) M) : AW S l own cc nL ret d K o pc L (xr (1000 + i) :: st) M :=
  k.step fun D cA ad p e s m args below meth c H locs ls Q hC hH hl hx hb k => vk_getf (o := "java/lang/String") (n := "value") (d := "[B") (ref := "java/lang/String") (q := ad (1000 + i)) (v := .ref (ad (1010 + i))) hx hb (hC.2.2.2.2.2.1.1 i hi).2.2.1 hH.2 hC.1.2.2.2.1 (hC.1.2.2.2.2 _ hlk) (fun _ h => h) hdg k
theorem A_strcod {index i : Nat} (hi : i < 2) (hlk : Cond.fieldLink own index "java/lang/String" "coder" "B" ∈ lw_g) (hdg : decode cc pc = .ok (.getfield index, 3)) (k : AW S l own cc nL ret d K o (pc + 3) L (xi 0 :: st) M) : AW S l own cc nL ret d K o pc L (xr (1000 + i) :: st) M :=
  k.step fun D cA ad p e s m args below meth c H locs ls Q hC hH hl hx hb k => vk_getf (o := "java/lang/String") (n := "coder") (d := "B") (ref := "java/lang/String") (q := ad (1000 + i)) (v := .int 0) hx hb (hC.2.2.2.2.2.1.1 i hi).2.1 hH.2 hC.1.2.2.2.1 (hC.1.2.2.2.2 _ hlk) (fun _ h => h) hdg k
theorem A_stralen {i : Nat} {v : Int32} (hi : i < 2) (hv : Int32.ofNat ((([1, 5] : List Nat)).getD i 0) = v) (hdg : decode cc pc = .ok (.arraylength, 1)) (k : AW S l own cc nL ret d K o (pc + 1) L (xi v :: st) M) : AW S l own cc nL ret d K o pc L (xr (1010 + i) :: st) M :=
  k.step fun D cA ad p e s m args below meth c H locs ls Q hC hH hl hx hb k => va_tlen (t := ad (1010 + i)) hx hb (hC.2.2.2.2.2.1.1 i hi).2.2.2 hH.2 hv hdg k
theorem A_strbald {i : Nat} {x : Int32} (hi : i < 2) (hin : vp_in x ((([1, 5] : List Nat)).getD i 0)) (hdg : decode cc pc = .ok (.baload, 1)) (k : AW S l own cc nL ret d K o (pc + 1) L (xi ((([[121], [115, 120, 102, 119, 112]] : List (List Int32)).getD i []).getD x.toNatClampNeg 0) :: st) M) : AW S l own cc nL ret d K o pc L (xi x :: xr (1010 + i) :: st) M :=
  k.step fun D cA ad p e s m args below meth c H locs ls Q hC hH hl hx hb k => va_tb (t := ad (1010 + i)) hx hb (hC.2.2.2.2.2.1.1 i hi).2.2.2 hH.2 hin rfl hdg k
variable {index maxL dd n i : Nat} {y : MethodName} {bytes : ByteArray} {rt : Option FieldType} {as rest : List rV}
theorem A_callTi {oi : Option (Int32 × xM)} {k : Int32 × xM → Option ρ} (hi : i < 2) (hM : AM S l y bytes maxL rt dd ki (xr (1000 + i) :: as) M oi) (hk : xlk own index y bytes maxL rt n ∧ Cond.instanceMethod y ∈ lw_g ∧ Cond.selects RJ0 y y ∈ lw_g) (hn : as.length = n) (hd : dd + 1 ≤ d) (hW : xsl rest ≤ 8) (hst : st = as.reverse ++ xr (1000 + i) :: rest) (hdg : decode cc pc = .ok (.invokevirtual index, 3))
    (kk : ∀ v M', oi = some (v, M') → AW S l own cc nL ret d K (k (v, M')) (pc + 3) L (xi v :: rest) M') : AW S l own cc nL ret d K (oi.bind k) pc L st M := by
  intro q0 ho D cA ad p e s m args below meth c H locs ls hC hH hl
  obtain ⟨q', h1, h2⟩ := Option.bind_eq_some_iff.mp ho
  obtain ⟨⟨hk1, hk2, hk3, hk4, hk5⟩, hk6, hk7⟩ := hk
  have hts := hC.1.2.2.2.2
  have run := va_runV (p := p) (l := l) (e := e) (meth := meth) (R := xRm d) (below := below) (locs := locs) (cells := 0) (slots := 0) (n := n) (b := ad (1000 + i)) (C := RJ0) (As := as.map (xv ad)) (rest := rest.map (xv ad)) (H := H) (g := F0 m pc ls (st.map (xv ad))) hC.1 (hM q' h1 D cA ad hC.2.2.1)
    ⟨callB_of n hts (xlw_ws hk3) rfl rfl rfl (hts _ hk2) (hts _ hk1) hk4 ⟨by simp only [xRm]; omega, by simp only [xRm]; omega⟩, hts _ hk6, hts _ hk7⟩
    ⟨xPc_blind, va_Orecv (hC.2.2.2.2.2.1.1 i hi).1 hH.2, fun U hU hWm => ⟨rfl, by rw [hU]; exact hH.1, va_K.moved hWm.alike hC.2.1, hC.2.2.2.2.2.go hH.2 hU hWm⟩⟩ rfl (by simpa using hn) hl.1 (by subst hst; simp [xv]) (lv_room (by rw [xsl_cat]; exact hW)) hdg ⟨Nat.le_refl _, Nat.le_refl _⟩
  exact xcall run hH.2 (fun H1 locs1 hP hS => kk q'.1 q'.2 h1 q0 h2 D cA ad p e s m args below meth c H1 locs1 ls hC ⟨hP, hS⟩ hl)
theorem A_callTp {v : Int32} (hi : i < 2) (hM : AM S l y bytes maxL rt dd ki (xr (1000 + i) :: as) M (some (v, M))) (hk : xlk own index y bytes maxL rt n ∧ Cond.instanceMethod y ∈ lw_g ∧ Cond.selects RJ0 y y ∈ lw_g) (hn : as.length = n) (hd : dd + 1 ≤ d) (hW : xsl rest ≤ 8) (hst : st = as.reverse ++ xr (1000 + i) :: rest) (hdg : decode cc pc = .ok (.invokevirtual index, 3))
    (kk : AW S l own cc nL ret d K o (pc + 3) L (xi v :: rest) M) : AW S l own cc nL ret d K o pc L st M := A_callTi (k := fun _ => o) hi hM hk hn hd hW hst hdg (fun v' M' h => by cases h; exact kk)
end TEXTS
theorem lt_cod : xlk RJ0 335 yJ0_coder_7d493 cJ0_coder_7d493 1 (some .byte) 0 ∧ Cond.instanceMethod yJ0_coder_7d493 ∈ lw_g ∧ Cond.selects RJ0 yJ0_coder_7d493 yJ0_coder_7d493 ∈ lw_g := ⟨⟨lw_gm 1728 (by decide +kernel) rfl, lw_gm 119 (by decide +kernel) rfl, lw_gm 1731 (by decide +kernel) rfl, ⟨by decide, by decide, by decide +kernel⟩, by decide⟩, lw_gm 1729 (by decide +kernel) rfl, lw_gm 1730 (by decide +kernel) rfl⟩
theorem lt_lat : xlk RJ0 492 yJ0_isLatin1_aae02 cJ0_isLatin1_aae02 1 (some .boolean) 0 ∧ Cond.instanceMethod yJ0_isLatin1_aae02 ∈ lw_g ∧ Cond.selects RJ0 yJ0_isLatin1_aae02 yJ0_isLatin1_aae02 ∈ lw_g := ⟨⟨lw_gm 1738 (by decide +kernel) rfl, lw_gm 119 (by decide +kernel) rfl, lw_gm 1741 (by decide +kernel) rfl, ⟨by decide, by decide, by decide +kernel⟩, by decide⟩, lw_gm 1739 (by decide +kernel) rfl, lw_gm 1740 (by decide +kernel) rfl⟩
theorem lt_l1 : xlS RJ0 495 yJ1_charAt_3b067 cJ1_charAt_3b067 2 (some .char) 2 := ⟨⟨lw_gm 1742 (by decide +kernel) rfl, lw_gm 120 (by decide +kernel) rfl, lw_gm 1744 (by decide +kernel) rfl, ⟨by decide, by decide, by decide +kernel⟩, by decide⟩, lw_gm 1743 (by decide +kernel) rfl⟩
theorem lt_pre : xlS RJ0 1059 yJ3_checkIndex_8e157 cJ3_checkIndex_8e157 3 (some .int) 3 := ⟨⟨lw_gm 1750 (by decide +kernel) rfl, lw_gm 121 (by decide +kernel) rfl, lw_gm 1752 (by decide +kernel) rfl, ⟨by decide, by decide, by decide +kernel⟩, by decide⟩, lw_gm 1751 (by decide +kernel) rfl⟩
theorem lt_ci : xlS RJ1 9 yJ0_checkIndex_df160 cJ0_checkIndex_df160 2 none 2 := ⟨⟨lw_gm 1745 (by decide +kernel) rfl, lw_gm 119 (by decide +kernel) rfl, lw_gm 1747 (by decide +kernel) rfl, ⟨by decide, by decide, by decide +kernel⟩, by decide⟩, lw_gm 1746 (by decide +kernel) rfl⟩
theorem lt_len : xlk RX12 219 yJ0_length_8abf5 cJ0_length_8abf5 1 (some .int) 0 ∧ Cond.instanceMethod yJ0_length_8abf5 ∈ lw_g ∧ Cond.selects RJ0 yJ0_length_8abf5 yJ0_length_8abf5 ∈ lw_g := ⟨⟨lw_gm 1724 (by decide +kernel) rfl, lw_gm 119 (by decide +kernel) rfl, lw_gm 1727 (by decide +kernel) rfl, ⟨by decide, by decide, by decide +kernel⟩, by decide⟩, lw_gm 1725 (by decide +kernel) rfl, lw_gm 1726 (by decide +kernel) rfl⟩
theorem lt_chr : xlk RX12 225 yJ0_charAt_5068e cJ0_charAt_5068e 2 (some .char) 1 ∧ Cond.instanceMethod yJ0_charAt_5068e ∈ lw_g ∧ Cond.selects RJ0 yJ0_charAt_5068e yJ0_charAt_5068e ∈ lw_g := ⟨⟨lw_gm 1734 (by decide +kernel) rfl, lw_gm 119 (by decide +kernel) rfl, lw_gm 1737 (by decide +kernel) rfl, ⟨by decide, by decide, by decide +kernel⟩, by decide⟩, lw_gm 1735 (by decide +kernel) rfl, lw_gm 1736 (by decide +kernel) rfl⟩
theorem lt_f38 : Cond.fieldLink RJ0 38 "java/lang/String" "COMPACT_STRINGS" "Z" ∈ lw_g := lw_gm 1732 (by decide +kernel) rfl
theorem lt_f15 : Cond.fieldLink RJ0 15 "java/lang/String" "coder" "B" ∈ lw_g := lw_gm 2195 (by decide +kernel) rfl
theorem lt_f9 : Cond.fieldLink RJ0 9 "java/lang/String" "value" "[B" ∈ lw_g := lw_gm 2194 (by decide +kernel) rfl
theorem lt_f1053 : Cond.fieldLink RJ0 1053 "jdk/internal/util/Preconditions" "SIOOBE_FORMATTER" "Ljava/util/function/BiFunction;" ∈ lw_g := lw_gm 1748 (by decide +kernel) rfl
set_option maxRecDepth 100000 in
set_option maxHeartbeats 4000000 in
theorem c_pre (l : Launch) (x0 x1 : Int32) (v : Value) (hv : v = .null ∨ ∃ a, v = .ref a) (h0 : ¬ x0 < 0) (h1 : x0 < x1) : Met l yJ3_checkIndex_8e157 (xws yJ3_checkIndex_8e157 cJ3_checkIndex_8e157 3 (some .int)) (xRm 0) (va_Pc [.int x0, .int x1, v] (fun _ => True)) (va_Qi (fun (r : Int32) (_ : Unit) => r = x0) (fun _ _ => True) (fun _ => False)) 0 0 (fun _ => False) := by
  refine Met.ofW (cc := cJ3_checkIndex_8e157) (maxL := 3) (ret := (some .int)) (by decide +kernel) rfl ?_
  intro p e s m args below meth c s₁ B hml hv2
  obtain ⟨rfl, -⟩ := hv2
  have hx := B.exec
  have hb := B.bytes
  have hr := B.returns
  have hlocks := B.notSynchronized
  have hS : va_S (fun _ => False) s.heap s.heap [] := va_S.rf
  have hlen : (lg_sl ([.int x0, .int x1, v])).length ≤ 3 := by
    rcases hv with rfl | ⟨a, rfl⟩ <;> exact Nat.le_of_ble_eq_true rfl
  have hl := lv_entry ([.int x0, .int x1, v]) (n := 3) hlen
  rw [lg_entry_eq]
  generalize (lg_sl ([.int x0, .int x1, v]) ++ List.replicate (3 - (lg_sl ([.int x0, .int x1, v])).length) Slot.unset).toArray = ls at hl ⊢
  have hl : lv_has ls 3 [(0, .int x0), (1, .int x1), (2, v)] := hl
  refine lv_iload_n hx hb dJ3_checkIndex_8e157_0 rfl (lv_at hl 0 rfl) ?_
  refine lv_if_lt (tgt := 9) hx hb dJ3_checkIndex_8e157_1 (by decide) (fun h => absurd h h0) (fun _ => ?_)
  refine lv_iload_n hx hb dJ3_checkIndex_8e157_4 rfl (lv_at hl 0 rfl) ?_
  refine lv_iload_n hx hb dJ3_checkIndex_8e157_5 rfl (lv_at hl 1 rfl) ?_
  refine lv_icmp_lt (tgt := 16) hx hb dJ3_checkIndex_8e157_6 (by decide) (fun _ => ?_) (fun h => absurd h1 h)
  refine lv_iload_n hx hb dJ3_checkIndex_8e157_16 rfl (lv_at hl 0 rfl) ?_
  exact W.iret (v := x0) hx hb hr (fun t ht hW => ⟨⟨x0, (), rfl, rfl, trivial⟩, hS.F ht⟩) hS.2.2 dJ3_checkIndex_8e157_17
set_option maxRecDepth 100000 in
set_option maxHeartbeats 4000000 in
theorem A_fmtpre {S : xS} {l : Launch} {cc : ByteArray} {nL d : Nat} {ret : Option FieldType} {ρ : Type} {K : ρ → xO} {o : Option ρ} {pc : Nat} {L : List (Option rV)} {st : List rV} {M : xM} {x0 x1 : Int32} (h0 : ¬ x0 < 0) (h1 : x0 < x1) (hd : 1 ≤ d) (hW : xsl st ≤ 8) (hdg1 : decode cc pc = .ok (.getstatic 1053, 3)) (hdg2 : decode cc (pc + 3) = .ok (.invokestatic 1059, 3)) (k : AW S l RJ0 cc nL ret d K o (pc + 3 + 3) L (xi x0 :: st) M) : AW S l RJ0 cc nL ret d K o pc L (xi x1 :: xi x0 :: st) M := by
  intro q0 ho D cA ad p e s m args below meth c H locs ls hC hH hl
  obtain ⟨v, hv, hz⟩ := hC.2.2.2.2.2.2.2.2.2
  have hts := hC.1.2.2.2.2
  have hcat : v.category = 1 := by rcases hv with rfl | ⟨a, rfl⟩ <;> rfl
  refine va_gets (C := "jdk/internal/util/Preconditions") (n := "SIOOBE_FORMATTER") (d := "Ljava/util/function/BiFunction;") (v := v) (ref := "jdk/internal/util/Preconditions") hC.1.1 hC.1.2.1 hz hH.2 hC.1.2.2.2.1 (hts _ lt_f1053) (fun _ h => h) hdg1 ?_
  refine va_calli (va_runS (As := [.int x0, .int x1, v]) (rest := st.map (xv ad)) hC.1 (c_pre l x0 x1 v hv h0 h1) ⟨callB_of 3 hts (xlw_ws lt_pre.1.2.2.1) rfl rfl rfl (hts _ lt_pre.1.2.1) (hts _ lt_pre.1.1) lt_pre.1.2.2.2.1 ⟨by simp only [xRm]; omega, by simp only [xRm]; omega⟩, hts _ lt_pre.2⟩ ⟨fun _ _ _ _ q => q, fun U hU hWm => ⟨rfl, trivial⟩⟩ rfl rfl hl.1 rfl (lv_room (by rw [xsl_cat]; exact hW)) hdg2 ⟨Nat.le_refl _, Nat.le_refl _⟩) hH.2 (fun q _ h => h.elim) (fun q h => h.elim) (fun r u t H1 locs1 ht hvm hw hB hz1 hk1 hS => ?_)
  subst hw
  exact k q0 ho D cA ad p e s m args below meth c H1 locs1 ls hC ⟨hH.1.kept (fun k q hq => hk1 q.1 (hH.1 k q hq).lt (fun h => h)), hS⟩ hl
set_option maxRecDepth 100000 in
set_option maxHeartbeats 4000000 in
theorem a_chk {S : xS} {l : Launch} (x0 x1 : Int32) (M : xM) : AM S l yJ0_checkIndex_df160 cJ0_checkIndex_df160 2 none 1 kv [xi x0, xi x1] M (if x0 < 0 then none else if x0 < x1 then some M else none) := by
  refine AM.of (own := RJ0) (L0 := [some (xi x0), some (xi x1)]) ?_ (by decide +kernel) rfl (Nat.le_of_ble_eq_true rfl) ⟨rfl, rfl, trivial⟩
  refine AW.ite (fun _ => AW.none) (fun h0 => ?_)
  refine AW.ite (fun h1 => ?_) (fun _ => AW.none)
  refine A_iload_n dJ0_checkIndex_df160_0 rfl ?_
  refine A_iload_n dJ0_checkIndex_df160_1 rfl ?_
  refine A_fmtpre h0 h1 (by decide) (Nat.le_of_ble_eq_true rfl) dJ0_checkIndex_df160_2 dJ0_checkIndex_df160_5 ?_
  refine A_pop dJ0_checkIndex_df160_8 rfl ?_
  exact A_vret rfl dJ0_checkIndex_df160_9
set_option maxRecDepth 100000 in
set_option maxHeartbeats 4000000 in
theorem a_cod0 {S : xS} {l : Launch}  (M : xM) : AM S l yJ0_coder_7d493 cJ0_coder_7d493 1 (some .byte) 0 ki [xr (1000 + 0)] M (some (0, M)) := by
  refine AM.of (own := RJ0) (L0 := [some (xr (1000 + 0))]) ?_ (by decide +kernel) rfl (Nat.le_of_ble_eq_true rfl) ⟨rfl, trivial⟩
  refine A_compact lt_f38 dJ0_coder_7d493_0 ?_
  refine AW.eq (o' := if (1 : Int32) = 0 then none else some (0, M)) ?_ (by rw [if_neg (by decide)])
  refine A_if_eq (tgt := 13) dJ0_coder_7d493_3 (by decide) (fun h => absurd h (by decide)) (fun _ => ?_)
  refine A_aload_n dJ0_coder_7d493_6 rfl ?_
  refine A_strcod (i := 0) (by decide) lt_f15 dJ0_coder_7d493_7 ?_
  refine A_goto (tgt := 14) dJ0_coder_7d493_10 (by decide) ?_
  exact A_tret rfl rfl dJ0_coder_7d493_14
set_option maxRecDepth 100000 in
set_option maxHeartbeats 4000000 in
theorem a_lat0 {S : xS} {l : Launch}  (M : xM) : AM S l yJ0_isLatin1_aae02 cJ0_isLatin1_aae02 1 (some .boolean) 0 ki [xr (1000 + 0)] M (some (1, M)) := by
  refine AM.of (own := RJ0) (L0 := [some (xr (1000 + 0))]) ?_ (by decide +kernel) rfl (Nat.le_of_ble_eq_true rfl) ⟨rfl, trivial⟩
  refine A_compact lt_f38 dJ0_isLatin1_aae02_0 ?_
  refine AW.eq (o' := if (1 : Int32) = 0 then none else some (1, M)) ?_ (by rw [if_neg (by decide)])
  refine A_if_eq (tgt := 17) dJ0_isLatin1_aae02_3 (by decide) (fun h => absurd h (by decide)) (fun _ => ?_)
  refine A_aload_n dJ0_isLatin1_aae02_6 rfl ?_
  refine A_strcod (i := 0) (by decide) lt_f15 dJ0_isLatin1_aae02_7 ?_
  refine AW.eq (o' := if (0 : Int32) = 0 then some (1, M) else none) ?_ (by rw [if_pos rfl])
  refine A_if_ne (tgt := 17) dJ0_isLatin1_aae02_10 (by decide) (fun _ => ?_) (fun h => absurd rfl h)
  refine A_iconst (v := (1 : Int32)) dJ0_isLatin1_aae02_13 oI_1 ?_
  refine A_goto (tgt := 18) dJ0_isLatin1_aae02_14 (by decide) ?_
  exact A_zret' rfl (Or.inr rfl) dJ0_isLatin1_aae02_18
set_option maxRecDepth 100000 in
set_option maxHeartbeats 4000000 in
theorem a_len0 {S : xS} {l : Launch}  (M : xM) : AM S l yJ0_length_8abf5 cJ0_length_8abf5 1 (some .int) 1 ki [xr (1000 + 0)] M (some (1, M)) := by
  refine AM.of (own := RJ0) (L0 := [some (xr (1000 + 0))]) ?_ (by decide +kernel) rfl (Nat.le_of_ble_eq_true rfl) ⟨rfl, trivial⟩
  refine A_aload_n dJ0_length_8abf5_0 rfl ?_
  refine A_strval (i := 0) (by decide) lt_f9 dJ0_length_8abf5_1 ?_
  refine A_stralen (i := 0) (v := 1) (by decide) (by decide) dJ0_length_8abf5_4 ?_
  refine A_aload_n dJ0_length_8abf5_5 rfl ?_
  refine A_callTp (i := 0) (by decide) (a_cod0 _) lt_cod rfl (by decide) (Nat.le_of_ble_eq_true rfl) rfl dJ0_length_8abf5_6 ?_
  refine AW.eq (o' := some ((1 : Int32) >>> ((0 : Int32) &&& 31), M)) ?_ (by rw [show (1 : Int32) >>> ((0 : Int32) &&& 31) = 1 by decide])
  refine A_ishr dJ0_length_8abf5_9 ?_
  exact A_iret rfl dJ0_length_8abf5_10
theorem tx_ok0 {x1 : Int32} (h : ¬ (x1 < 0 ∨ 1 ≤ x1.toNatClampNeg)) : narrow .char (.int ((([[121], [115, 120, 102, 119, 112]] : List (List Int32)).getD 0 []).getD x1.toNatClampNeg 0)) = .int ((([[121], [115, 120, 102, 119, 112]] : List (List Int32)).getD 0 []).getD x1.toNatClampNeg 0) ∧ ((((([[121], [115, 120, 102, 119, 112]] : List (List Int32)).getD 0 []).getD x1.toNatClampNeg 0) &&& 255).toUInt32 % 65536).toInt32 = ((([[121], [115, 120, 102, 119, 112]] : List (List Int32)).getD 0 []).getD x1.toNatClampNeg 0) ∧ ¬ x1 < 0 ∧ x1 < 1 := by
  obtain ⟨j, hj, rfl⟩ := vp_in_of (n := 1) h (by decide)
  rw [nI_clamp (by omega)]
  rcases (show j = 0 by omega) with rfl <;> decide
set_option maxRecDepth 100000 in
set_option maxHeartbeats 4000000 in
theorem a_l1_0 {S : xS} {l : Launch} (x1 : Int32) (M : xM) : AM S l yJ1_charAt_3b067 cJ1_charAt_3b067 2 (some .char) 2 ki [xr (1010 + 0), xi x1] M (if x1 < 0 ∨ 1 ≤ x1.toNatClampNeg then none else some (((([[121], [115, 120, 102, 119, 112]] : List (List Int32)).getD 0 []).getD x1.toNatClampNeg 0), M)) := by
  refine AM.of (own := RJ1) (L0 := [some (xr (1010 + 0)), some (xi x1)]) ?_ (by decide +kernel) rfl (Nat.le_of_ble_eq_true rfl) ⟨rfl, rfl, trivial⟩
  refine AW.ite (fun _ => AW.none) (fun h => ?_)
  obtain ⟨t1, t2, t3, t4⟩ := tx_ok0 h
  refine AW.eq (o' := (if x1 < 0 then none else if x1 < (1 : Int32) then some M else none : Option xM).bind fun _ => some (((([[121], [115, 120, 102, 119, 112]] : List (List Int32)).getD 0 []).getD x1.toNatClampNeg 0), M)) ?_ (by rw [if_neg t3, if_pos t4]; rfl)
  refine A_iload_n dJ1_charAt_3b067_0 rfl ?_
  refine A_aload_n dJ1_charAt_3b067_1 rfl ?_
  refine A_stralen (i := 0) (v := 1) (by decide) (by decide) dJ1_charAt_3b067_2 ?_
  refine A_callSv (a_chk _ _ _) lt_ci rfl (by decide) (Nat.le_of_ble_eq_true rfl) rfl dJ1_charAt_3b067_3 (fun M1 h1 => ?_)
  rw [if_neg t3, if_pos t4] at h1
  cases h1
  refine A_aload_n dJ1_charAt_3b067_6 rfl ?_
  refine A_iload_n dJ1_charAt_3b067_7 rfl ?_
  refine A_strbald (i := 0) (by decide) h dJ1_charAt_3b067_8 ?_
  refine A_sipush (v := (255 : Int32)) dJ1_charAt_3b067_9 (by decide) ?_
  refine A_iand dJ1_charAt_3b067_12 ?_
  refine A_i2c dJ1_charAt_3b067_13 ?_
  rw [t2]
  exact A_tret rfl t1 dJ1_charAt_3b067_14
set_option maxRecDepth 100000 in
set_option maxHeartbeats 4000000 in
theorem a_chr0 {S : xS} {l : Launch} (x1 : Int32) (M : xM) : AM S l yJ0_charAt_5068e cJ0_charAt_5068e 2 (some .char) 3 ki [xr (1000 + 0), xi x1] M (if x1 < 0 ∨ 1 ≤ x1.toNatClampNeg then none else some (((([[121], [115, 120, 102, 119, 112]] : List (List Int32)).getD 0 []).getD x1.toNatClampNeg 0), M)) := by
  refine AM.of (own := RJ0) (L0 := [some (xr (1000 + 0)), some (xi x1)]) ?_ (by decide +kernel) rfl (Nat.le_of_ble_eq_true rfl) ⟨rfl, rfl, trivial⟩
  refine A_aload_n dJ0_charAt_5068e_0 rfl ?_
  refine A_callTp (i := 0) (by decide) (a_lat0 _) lt_lat rfl (by decide) (Nat.le_of_ble_eq_true rfl) rfl dJ0_charAt_5068e_1 ?_
  refine AW.eq (o' := if (1 : Int32) = 0 then none else (if x1 < 0 ∨ 1 ≤ x1.toNatClampNeg then none else some (((([[121], [115, 120, 102, 119, 112]] : List (List Int32)).getD 0 []).getD x1.toNatClampNeg 0), M) : Option (Int32 × xM))) ?_ (by rw [if_neg (by decide : ¬ (1 : Int32) = 0)])
  refine A_if_eq (tgt := 16) dJ0_charAt_5068e_4 (by decide) (fun h => absurd h (by decide)) (fun _ => ?_)
  refine AW.ite (fun _ => AW.none) (fun h => ?_)
  obtain ⟨t1, -, -, -⟩ := tx_ok0 h
  refine AW.eq (o' := (if x1 < 0 ∨ 1 ≤ x1.toNatClampNeg then none else some (((([[121], [115, 120, 102, 119, 112]] : List (List Int32)).getD 0 []).getD x1.toNatClampNeg 0), M) : Option (Int32 × xM)).bind fun q => some (q.1, q.2)) ?_ (by rw [if_neg h]; rfl)
  refine A_aload_n dJ0_charAt_5068e_7 rfl ?_
  refine A_strval (i := 0) (by decide) lt_f9 dJ0_charAt_5068e_8 ?_
  refine A_iload_n dJ0_charAt_5068e_11 rfl ?_
  refine A_callSi (a_l1_0 _ _) lt_l1 rfl (by decide) (Nat.le_of_ble_eq_true rfl) rfl dJ0_charAt_5068e_12 (fun v M1 h1 => ?_)
  rw [if_neg h] at h1
  cases h1
  exact A_tret rfl t1 dJ0_charAt_5068e_15
set_option maxRecDepth 100000 in
set_option maxHeartbeats 4000000 in
theorem a_cod1 {S : xS} {l : Launch}  (M : xM) : AM S l yJ0_coder_7d493 cJ0_coder_7d493 1 (some .byte) 0 ki [xr (1000 + 1)] M (some (0, M)) := by
  refine AM.of (own := RJ0) (L0 := [some (xr (1000 + 1))]) ?_ (by decide +kernel) rfl (Nat.le_of_ble_eq_true rfl) ⟨rfl, trivial⟩
  refine A_compact lt_f38 dJ0_coder_7d493_0 ?_
  refine AW.eq (o' := if (1 : Int32) = 0 then none else some (0, M)) ?_ (by rw [if_neg (by decide)])
  refine A_if_eq (tgt := 13) dJ0_coder_7d493_3 (by decide) (fun h => absurd h (by decide)) (fun _ => ?_)
  refine A_aload_n dJ0_coder_7d493_6 rfl ?_
  refine A_strcod (i := 1) (by decide) lt_f15 dJ0_coder_7d493_7 ?_
  refine A_goto (tgt := 14) dJ0_coder_7d493_10 (by decide) ?_
  exact A_tret rfl rfl dJ0_coder_7d493_14
set_option maxRecDepth 100000 in
set_option maxHeartbeats 4000000 in
theorem a_lat1 {S : xS} {l : Launch}  (M : xM) : AM S l yJ0_isLatin1_aae02 cJ0_isLatin1_aae02 1 (some .boolean) 0 ki [xr (1000 + 1)] M (some (1, M)) := by
  refine AM.of (own := RJ0) (L0 := [some (xr (1000 + 1))]) ?_ (by decide +kernel) rfl (Nat.le_of_ble_eq_true rfl) ⟨rfl, trivial⟩
  refine A_compact lt_f38 dJ0_isLatin1_aae02_0 ?_
  refine AW.eq (o' := if (1 : Int32) = 0 then none else some (1, M)) ?_ (by rw [if_neg (by decide)])
  refine A_if_eq (tgt := 17) dJ0_isLatin1_aae02_3 (by decide) (fun h => absurd h (by decide)) (fun _ => ?_)
  refine A_aload_n dJ0_isLatin1_aae02_6 rfl ?_
  refine A_strcod (i := 1) (by decide) lt_f15 dJ0_isLatin1_aae02_7 ?_
  refine AW.eq (o' := if (0 : Int32) = 0 then some (1, M) else none) ?_ (by rw [if_pos rfl])
  refine A_if_ne (tgt := 17) dJ0_isLatin1_aae02_10 (by decide) (fun _ => ?_) (fun h => absurd rfl h)
  refine A_iconst (v := (1 : Int32)) dJ0_isLatin1_aae02_13 oI_1 ?_
  refine A_goto (tgt := 18) dJ0_isLatin1_aae02_14 (by decide) ?_
  exact A_zret' rfl (Or.inr rfl) dJ0_isLatin1_aae02_18
set_option maxRecDepth 100000 in
set_option maxHeartbeats 4000000 in
theorem a_len1 {S : xS} {l : Launch}  (M : xM) : AM S l yJ0_length_8abf5 cJ0_length_8abf5 1 (some .int) 1 ki [xr (1000 + 1)] M (some (5, M)) := by
  refine AM.of (own := RJ0) (L0 := [some (xr (1000 + 1))]) ?_ (by decide +kernel) rfl (Nat.le_of_ble_eq_true rfl) ⟨rfl, trivial⟩
  refine A_aload_n dJ0_length_8abf5_0 rfl ?_
  refine A_strval (i := 1) (by decide) lt_f9 dJ0_length_8abf5_1 ?_
  refine A_stralen (i := 1) (v := 5) (by decide) (by decide) dJ0_length_8abf5_4 ?_
  refine A_aload_n dJ0_length_8abf5_5 rfl ?_
  refine A_callTp (i := 1) (by decide) (a_cod1 _) lt_cod rfl (by decide) (Nat.le_of_ble_eq_true rfl) rfl dJ0_length_8abf5_6 ?_
  refine AW.eq (o' := some ((5 : Int32) >>> ((0 : Int32) &&& 31), M)) ?_ (by rw [show (5 : Int32) >>> ((0 : Int32) &&& 31) = 5 by decide])
  refine A_ishr dJ0_length_8abf5_9 ?_
  exact A_iret rfl dJ0_length_8abf5_10
theorem tx_ok1 {x1 : Int32} (h : ¬ (x1 < 0 ∨ 5 ≤ x1.toNatClampNeg)) : narrow .char (.int ((([[121], [115, 120, 102, 119, 112]] : List (List Int32)).getD 1 []).getD x1.toNatClampNeg 0)) = .int ((([[121], [115, 120, 102, 119, 112]] : List (List Int32)).getD 1 []).getD x1.toNatClampNeg 0) ∧ ((((([[121], [115, 120, 102, 119, 112]] : List (List Int32)).getD 1 []).getD x1.toNatClampNeg 0) &&& 255).toUInt32 % 65536).toInt32 = ((([[121], [115, 120, 102, 119, 112]] : List (List Int32)).getD 1 []).getD x1.toNatClampNeg 0) ∧ ¬ x1 < 0 ∧ x1 < 5 := by
  obtain ⟨j, hj, rfl⟩ := vp_in_of (n := 5) h (by decide)
  rw [nI_clamp (by omega)]
  rcases (show j = 0 ∨ j = 1 ∨ j = 2 ∨ j = 3 ∨ j = 4 by omega) with rfl | rfl | rfl | rfl | rfl <;> decide
set_option maxRecDepth 100000 in
set_option maxHeartbeats 4000000 in
theorem a_l1_1 {S : xS} {l : Launch} (x1 : Int32) (M : xM) : AM S l yJ1_charAt_3b067 cJ1_charAt_3b067 2 (some .char) 2 ki [xr (1010 + 1), xi x1] M (if x1 < 0 ∨ 5 ≤ x1.toNatClampNeg then none else some (((([[121], [115, 120, 102, 119, 112]] : List (List Int32)).getD 1 []).getD x1.toNatClampNeg 0), M)) := by
  refine AM.of (own := RJ1) (L0 := [some (xr (1010 + 1)), some (xi x1)]) ?_ (by decide +kernel) rfl (Nat.le_of_ble_eq_true rfl) ⟨rfl, rfl, trivial⟩
  refine AW.ite (fun _ => AW.none) (fun h => ?_)
  obtain ⟨t1, t2, t3, t4⟩ := tx_ok1 h
  refine AW.eq (o' := (if x1 < 0 then none else if x1 < (5 : Int32) then some M else none : Option xM).bind fun _ => some (((([[121], [115, 120, 102, 119, 112]] : List (List Int32)).getD 1 []).getD x1.toNatClampNeg 0), M)) ?_ (by rw [if_neg t3, if_pos t4]; rfl)
  refine A_iload_n dJ1_charAt_3b067_0 rfl ?_
  refine A_aload_n dJ1_charAt_3b067_1 rfl ?_
  refine A_stralen (i := 1) (v := 5) (by decide) (by decide) dJ1_charAt_3b067_2 ?_
  refine A_callSv (a_chk _ _ _) lt_ci rfl (by decide) (Nat.le_of_ble_eq_true rfl) rfl dJ1_charAt_3b067_3 (fun M1 h1 => ?_)
  rw [if_neg t3, if_pos t4] at h1
  cases h1
  refine A_aload_n dJ1_charAt_3b067_6 rfl ?_
  refine A_iload_n dJ1_charAt_3b067_7 rfl ?_
  refine A_strbald (i := 1) (by decide) h dJ1_charAt_3b067_8 ?_
  refine A_sipush (v := (255 : Int32)) dJ1_charAt_3b067_9 (by decide) ?_
  refine A_iand dJ1_charAt_3b067_12 ?_
  refine A_i2c dJ1_charAt_3b067_13 ?_
  rw [t2]
  exact A_tret rfl t1 dJ1_charAt_3b067_14
set_option maxRecDepth 100000 in
set_option maxHeartbeats 4000000 in
theorem a_chr1 {S : xS} {l : Launch} (x1 : Int32) (M : xM) : AM S l yJ0_charAt_5068e cJ0_charAt_5068e 2 (some .char) 3 ki [xr (1000 + 1), xi x1] M (if x1 < 0 ∨ 5 ≤ x1.toNatClampNeg then none else some (((([[121], [115, 120, 102, 119, 112]] : List (List Int32)).getD 1 []).getD x1.toNatClampNeg 0), M)) := by
  refine AM.of (own := RJ0) (L0 := [some (xr (1000 + 1)), some (xi x1)]) ?_ (by decide +kernel) rfl (Nat.le_of_ble_eq_true rfl) ⟨rfl, rfl, trivial⟩
  refine A_aload_n dJ0_charAt_5068e_0 rfl ?_
  refine A_callTp (i := 1) (by decide) (a_lat1 _) lt_lat rfl (by decide) (Nat.le_of_ble_eq_true rfl) rfl dJ0_charAt_5068e_1 ?_
  refine AW.eq (o' := if (1 : Int32) = 0 then none else (if x1 < 0 ∨ 5 ≤ x1.toNatClampNeg then none else some (((([[121], [115, 120, 102, 119, 112]] : List (List Int32)).getD 1 []).getD x1.toNatClampNeg 0), M) : Option (Int32 × xM))) ?_ (by rw [if_neg (by decide : ¬ (1 : Int32) = 0)])
  refine A_if_eq (tgt := 16) dJ0_charAt_5068e_4 (by decide) (fun h => absurd h (by decide)) (fun _ => ?_)
  refine AW.ite (fun _ => AW.none) (fun h => ?_)
  obtain ⟨t1, -, -, -⟩ := tx_ok1 h
  refine AW.eq (o' := (if x1 < 0 ∨ 5 ≤ x1.toNatClampNeg then none else some (((([[121], [115, 120, 102, 119, 112]] : List (List Int32)).getD 1 []).getD x1.toNatClampNeg 0), M) : Option (Int32 × xM)).bind fun q => some (q.1, q.2)) ?_ (by rw [if_neg h]; rfl)
  refine A_aload_n dJ0_charAt_5068e_7 rfl ?_
  refine A_strval (i := 1) (by decide) lt_f9 dJ0_charAt_5068e_8 ?_
  refine A_iload_n dJ0_charAt_5068e_11 rfl ?_
  refine A_callSi (a_l1_1 _ _) lt_l1 rfl (by decide) (Nat.le_of_ble_eq_true rfl) rfl dJ0_charAt_5068e_12 (fun v M1 h1 => ?_)
  rw [if_neg h] at h1
  cases h1
  exact A_tret rfl t1 dJ0_charAt_5068e_15
/-- the texts of the two constants -/
def xtx (s : Nat) : List Int32 := if s = 1000 then [121] else if s = 1001 then [115, 120, 102, 119, 112] else []
def xam : List Int32 → Int32 → Int32
  | [], _ => 0
  | c :: l, x => if c = x then 1 else xam l x
theorem xam_z : ∀ (l : List Int32) (x : Int32), xam l x = 0 ∨ xam l x = 1
  | [], _ => Or.inl rfl
  | c :: l, x => by
    unfold xam
    split
    · exact Or.inr rfl
    · exact xam_z l x
def P_X12_isAmong (s : Nat) (x1 : Int32) (M : xM) : Int32 := xam (xtx s) x1
theorem zP_X12_isAmong (s : Nat) (x1 : Int32) (M : xM) : P_X12_isAmong s x1 M = 0 ∨ P_X12_isAmong s x1 M = 1 := xam_z _ _
theorem A_chr {S : xS} {l : Launch} {cc : ByteArray} {nL d : Nat} {ret : Option FieldType} {ρ : Type} {K : ρ → xO} {o : Option ρ} {pc : Nat} {L : List (Option rV)} {st : List rV} {M : xM} {s : Nat} {x1 : Int32} (hs : s = 1000 ∨ s = 1001) (hd : 9 ≤ d) (hW : xsl st ≤ 8) (hdg : decode cc pc = .ok (.invokevirtual 225, 3)) (k : ¬ (x1 < 0 ∨ (xtx s).length ≤ x1.toNatClampNeg) → AW S l RX12 cc nL ret d K o (pc + 3) L (xi ((xtx s).getD x1.toNatClampNeg 0) :: st) M) : AW S l RX12 cc nL ret d K (if x1 < 0 ∨ (xtx s).length ≤ x1.toNatClampNeg then none else o) pc L (xi x1 :: xr s :: st) M := by
  refine AW.ite (fun _ => AW.none) (fun h => ?_)
  have k2 := k h
  rcases hs with rfl | rfl
  · have h' : ¬ (x1 < 0 ∨ 1 ≤ x1.toNatClampNeg) := h
    refine AW.eq (o' := (some ((xtx 1000).getD x1.toNatClampNeg 0, M) : Option (Int32 × xM)).bind fun _ => o) ?_ rfl
    refine A_callTi (i := 0) (dd := 3) (as := [xi x1]) (by decide) (?_ : AM S l yJ0_charAt_5068e cJ0_charAt_5068e 2 (some .char) 3 ki [xr (1000 + 0), xi x1] M (some ((xtx 1000).getD x1.toNatClampNeg 0, M))) lt_chr rfl (by omega) hW rfl hdg (fun v M1 e => ?_)
    · have e := a_chr0 (S := S) (l := l) x1 M
      rw [if_neg h'] at e
      exact e
    · cases e
      exact k2
  · have h' : ¬ (x1 < 0 ∨ 5 ≤ x1.toNatClampNeg) := h
    refine AW.eq (o' := (some ((xtx 1001).getD x1.toNatClampNeg 0, M) : Option (Int32 × xM)).bind fun _ => o) ?_ rfl
    refine A_callTi (i := 1) (dd := 3) (as := [xi x1]) (by decide) (?_ : AM S l yJ0_charAt_5068e cJ0_charAt_5068e 2 (some .char) 3 ki [xr (1000 + 1), xi x1] M (some ((xtx 1001).getD x1.toNatClampNeg 0, M))) lt_chr rfl (by omega) hW rfl hdg (fun v M1 e => ?_)
    · have e := a_chr1 (S := S) (l := l) x1 M
      rw [if_neg h'] at e
      exact e
    · cases e
      exact k2
set_option maxRecDepth 100000 in
set_option maxHeartbeats 4000000 in
theorem w_among0 {S : xS} {l : Launch} (x1 : Int32) (M : xM) : AW S l RX12 cX12_isAmong 3 (some .boolean) 9 ki (some (xam [121] x1, M)) 0 [some (xr 1000), some (xi x1), none] [] M := by
  have h1 : AW S l RX12 cX12_isAmong 3 (some .boolean) 9 ki (some (xam [] x1, M)) 2 [some (xr 1000), some (xi x1), some (xi 1)] [] M := by
    refine A_iload_n dX12_isAmong_2 rfl ?_
    refine A_aload_n dX12_isAmong_3 rfl ?_
    refine A_callTp (i := 0) (by decide) (a_len0 _) lt_len rfl (by decide) (Nat.le_of_ble_eq_true rfl) rfl dX12_isAmong_4 ?_
    refine AW.eq (o' := if (1 : Int32) ≤ 1 then some (0, M) else none) ?_ (by rw [if_pos (by decide)]; rfl)
    refine A_icmp_ge (tgt := 27) dX12_isAmong_7 (by decide) (fun _ => ?_) (fun h => absurd (by decide) h)
    refine A_iconst (v := (0 : Int32)) dX12_isAmong_27 oI_0 ?_
    exact A_zret' rfl (Or.inl rfl) dX12_isAmong_28
  have h0 : AW S l RX12 cX12_isAmong 3 (some .boolean) 9 ki (some (xam [121] x1, M)) 2 [some (xr 1000), some (xi x1), some (xi 0)] [] M := by
    refine A_iload_n dX12_isAmong_2 rfl ?_
    refine A_aload_n dX12_isAmong_3 rfl ?_
    refine A_callTp (i := 0) (by decide) (a_len0 _) lt_len rfl (by decide) (Nat.le_of_ble_eq_true rfl) rfl dX12_isAmong_4 ?_
    refine AW.eq (o' := if (1 : Int32) ≤ 0 then none else some (xam [121] x1, M)) ?_ (by rw [if_neg (by decide)])
    refine A_icmp_ge (tgt := 27) dX12_isAmong_7 (by decide) (fun h => absurd h (by decide)) (fun _ => ?_)
    refine A_aload_n dX12_isAmong_10 rfl ?_
    refine A_iload_n dX12_isAmong_11 rfl ?_
    refine AW.eq (o' := if (0 : Int32) < 0 ∨ (xtx 1000).length ≤ (0 : Int32).toNatClampNeg then none else some (xam [121] x1, M)) ?_ (by rw [if_neg (by decide)])
    refine A_chr (by decide) (by decide) (Nat.le_of_ble_eq_true rfl) dX12_isAmong_12 (fun _ => ?_)
    rw [show (xtx 1000).getD (0 : Int32).toNatClampNeg 0 = 121 by decide]
    refine A_iload_n dX12_isAmong_15 rfl ?_
    show AW S l RX12 cX12_isAmong 3 (some .boolean) 9 ki (some (if (121 : Int32) = x1 then 1 else xam [] x1, M)) _ _ _ M
    refine A_icmp_ne_p (tgt := 21) dX12_isAmong_16 (by decide) (fun _ => ?_) (fun _ => ?_)
    · refine A_iconst (v := (1 : Int32)) dX12_isAmong_19 oI_1 ?_
      exact A_zret' rfl (Or.inr rfl) dX12_isAmong_20
    · refine A_iinc dX12_isAmong_21 rfl oI_1 (Nat.le_of_ble_eq_true rfl) rfl ?_
      refine A_goto (tgt := 2) dX12_isAmong_24 (by decide) ?_
      exact h1
  refine A_iconst (v := (0 : Int32)) dX12_isAmong_0 oI_0 ?_
  refine A_istore_n dX12_isAmong_1 (Nat.le_of_ble_eq_true rfl) rfl ?_
  exact h0
set_option maxRecDepth 100000 in
set_option maxHeartbeats 4000000 in
theorem w_among1 {S : xS} {l : Launch} (x1 : Int32) (M : xM) : AW S l RX12 cX12_isAmong 3 (some .boolean) 9 ki (some (xam [115, 120, 102, 119, 112] x1, M)) 0 [some (xr 1001), some (xi x1), none] [] M := by
  have h5 : AW S l RX12 cX12_isAmong 3 (some .boolean) 9 ki (some (xam [] x1, M)) 2 [some (xr 1001), some (xi x1), some (xi 5)] [] M := by
    refine A_iload_n dX12_isAmong_2 rfl ?_
    refine A_aload_n dX12_isAmong_3 rfl ?_
    refine A_callTp (i := 1) (by decide) (a_len1 _) lt_len rfl (by decide) (Nat.le_of_ble_eq_true rfl) rfl dX12_isAmong_4 ?_
    refine AW.eq (o' := if (5 : Int32) ≤ 5 then some (0, M) else none) ?_ (by rw [if_pos (by decide)]; rfl)
    refine A_icmp_ge (tgt := 27) dX12_isAmong_7 (by decide) (fun _ => ?_) (fun h => absurd (by decide) h)
    refine A_iconst (v := (0 : Int32)) dX12_isAmong_27 oI_0 ?_
    exact A_zret' rfl (Or.inl rfl) dX12_isAmong_28
  have h4 : AW S l RX12 cX12_isAmong 3 (some .boolean) 9 ki (some (xam [112] x1, M)) 2 [some (xr 1001), some (xi x1), some (xi 4)] [] M := by
    refine A_iload_n dX12_isAmong_2 rfl ?_
    refine A_aload_n dX12_isAmong_3 rfl ?_
    refine A_callTp (i := 1) (by decide) (a_len1 _) lt_len rfl (by decide) (Nat.le_of_ble_eq_true rfl) rfl dX12_isAmong_4 ?_
    refine AW.eq (o' := if (5 : Int32) ≤ 4 then none else some (xam [112] x1, M)) ?_ (by rw [if_neg (by decide)])
    refine A_icmp_ge (tgt := 27) dX12_isAmong_7 (by decide) (fun h => absurd h (by decide)) (fun _ => ?_)
    refine A_aload_n dX12_isAmong_10 rfl ?_
    refine A_iload_n dX12_isAmong_11 rfl ?_
    refine AW.eq (o' := if (4 : Int32) < 0 ∨ (xtx 1001).length ≤ (4 : Int32).toNatClampNeg then none else some (xam [112] x1, M)) ?_ (by rw [if_neg (by decide)])
    refine A_chr (by decide) (by decide) (Nat.le_of_ble_eq_true rfl) dX12_isAmong_12 (fun _ => ?_)
    rw [show (xtx 1001).getD (4 : Int32).toNatClampNeg 0 = 112 by decide]
    refine A_iload_n dX12_isAmong_15 rfl ?_
    show AW S l RX12 cX12_isAmong 3 (some .boolean) 9 ki (some (if (112 : Int32) = x1 then 1 else xam [] x1, M)) _ _ _ M
    refine A_icmp_ne_p (tgt := 21) dX12_isAmong_16 (by decide) (fun _ => ?_) (fun _ => ?_)
    · refine A_iconst (v := (1 : Int32)) dX12_isAmong_19 oI_1 ?_
      exact A_zret' rfl (Or.inr rfl) dX12_isAmong_20
    · refine A_iinc dX12_isAmong_21 rfl oI_1 (Nat.le_of_ble_eq_true rfl) rfl ?_
      refine A_goto (tgt := 2) dX12_isAmong_24 (by decide) ?_
      exact h5
  have h3 : AW S l RX12 cX12_isAmong 3 (some .boolean) 9 ki (some (xam [119, 112] x1, M)) 2 [some (xr 1001), some (xi x1), some (xi 3)] [] M := by
    refine A_iload_n dX12_isAmong_2 rfl ?_
    refine A_aload_n dX12_isAmong_3 rfl ?_
    refine A_callTp (i := 1) (by decide) (a_len1 _) lt_len rfl (by decide) (Nat.le_of_ble_eq_true rfl) rfl dX12_isAmong_4 ?_
    refine AW.eq (o' := if (5 : Int32) ≤ 3 then none else some (xam [119, 112] x1, M)) ?_ (by rw [if_neg (by decide)])
    refine A_icmp_ge (tgt := 27) dX12_isAmong_7 (by decide) (fun h => absurd h (by decide)) (fun _ => ?_)
    refine A_aload_n dX12_isAmong_10 rfl ?_
    refine A_iload_n dX12_isAmong_11 rfl ?_
    refine AW.eq (o' := if (3 : Int32) < 0 ∨ (xtx 1001).length ≤ (3 : Int32).toNatClampNeg then none else some (xam [119, 112] x1, M)) ?_ (by rw [if_neg (by decide)])
    refine A_chr (by decide) (by decide) (Nat.le_of_ble_eq_true rfl) dX12_isAmong_12 (fun _ => ?_)
    rw [show (xtx 1001).getD (3 : Int32).toNatClampNeg 0 = 119 by decide]
    refine A_iload_n dX12_isAmong_15 rfl ?_
    show AW S l RX12 cX12_isAmong 3 (some .boolean) 9 ki (some (if (119 : Int32) = x1 then 1 else xam [112] x1, M)) _ _ _ M
    refine A_icmp_ne_p (tgt := 21) dX12_isAmong_16 (by decide) (fun _ => ?_) (fun _ => ?_)
    · refine A_iconst (v := (1 : Int32)) dX12_isAmong_19 oI_1 ?_
      exact A_zret' rfl (Or.inr rfl) dX12_isAmong_20
    · refine A_iinc dX12_isAmong_21 rfl oI_1 (Nat.le_of_ble_eq_true rfl) rfl ?_
      refine A_goto (tgt := 2) dX12_isAmong_24 (by decide) ?_
      exact h4
  have h2 : AW S l RX12 cX12_isAmong 3 (some .boolean) 9 ki (some (xam [102, 119, 112] x1, M)) 2 [some (xr 1001), some (xi x1), some (xi 2)] [] M := by
    refine A_iload_n dX12_isAmong_2 rfl ?_
    refine A_aload_n dX12_isAmong_3 rfl ?_
    refine A_callTp (i := 1) (by decide) (a_len1 _) lt_len rfl (by decide) (Nat.le_of_ble_eq_true rfl) rfl dX12_isAmong_4 ?_
    refine AW.eq (o' := if (5 : Int32) ≤ 2 then none else some (xam [102, 119, 112] x1, M)) ?_ (by rw [if_neg (by decide)])
    refine A_icmp_ge (tgt := 27) dX12_isAmong_7 (by decide) (fun h => absurd h (by decide)) (fun _ => ?_)
    refine A_aload_n dX12_isAmong_10 rfl ?_
    refine A_iload_n dX12_isAmong_11 rfl ?_
    refine AW.eq (o' := if (2 : Int32) < 0 ∨ (xtx 1001).length ≤ (2 : Int32).toNatClampNeg then none else some (xam [102, 119, 112] x1, M)) ?_ (by rw [if_neg (by decide)])
    refine A_chr (by decide) (by decide) (Nat.le_of_ble_eq_true rfl) dX12_isAmong_12 (fun _ => ?_)
    rw [show (xtx 1001).getD (2 : Int32).toNatClampNeg 0 = 102 by decide]
    refine A_iload_n dX12_isAmong_15 rfl ?_
    show AW S l RX12 cX12_isAmong 3 (some .boolean) 9 ki (some (if (102 : Int32) = x1 then 1 else xam [119, 112] x1, M)) _ _ _ M
    refine A_icmp_ne_p (tgt := 21) dX12_isAmong_16 (by decide) (fun _ => ?_) (fun _ => ?_)
    · refine A_iconst (v := (1 : Int32)) dX12_isAmong_19 oI_1 ?_
      exact A_zret' rfl (Or.inr rfl) dX12_isAmong_20
    · refine A_iinc dX12_isAmong_21 rfl oI_1 (Nat.le_of_ble_eq_true rfl) rfl ?_
      refine A_goto (tgt := 2) dX12_isAmong_24 (by decide) ?_
      exact h3
  have h1 : AW S l RX12 cX12_isAmong 3 (some .boolean) 9 ki (some (xam [120, 102, 119, 112] x1, M)) 2 [some (xr 1001), some (xi x1), some (xi 1)] [] M := by
    refine A_iload_n dX12_isAmong_2 rfl ?_
    refine A_aload_n dX12_isAmong_3 rfl ?_
    refine A_callTp (i := 1) (by decide) (a_len1 _) lt_len rfl (by decide) (Nat.le_of_ble_eq_true rfl) rfl dX12_isAmong_4 ?_
    refine AW.eq (o' := if (5 : Int32) ≤ 1 then none else some (xam [120, 102, 119, 112] x1, M)) ?_ (by rw [if_neg (by decide)])
    refine A_icmp_ge (tgt := 27) dX12_isAmong_7 (by decide) (fun h => absurd h (by decide)) (fun _ => ?_)
    refine A_aload_n dX12_isAmong_10 rfl ?_
    refine A_iload_n dX12_isAmong_11 rfl ?_
    refine AW.eq (o' := if (1 : Int32) < 0 ∨ (xtx 1001).length ≤ (1 : Int32).toNatClampNeg then none else some (xam [120, 102, 119, 112] x1, M)) ?_ (by rw [if_neg (by decide)])
    refine A_chr (by decide) (by decide) (Nat.le_of_ble_eq_true rfl) dX12_isAmong_12 (fun _ => ?_)
    rw [show (xtx 1001).getD (1 : Int32).toNatClampNeg 0 = 120 by decide]
    refine A_iload_n dX12_isAmong_15 rfl ?_
    show AW S l RX12 cX12_isAmong 3 (some .boolean) 9 ki (some (if (120 : Int32) = x1 then 1 else xam [102, 119, 112] x1, M)) _ _ _ M
    refine A_icmp_ne_p (tgt := 21) dX12_isAmong_16 (by decide) (fun _ => ?_) (fun _ => ?_)
    · refine A_iconst (v := (1 : Int32)) dX12_isAmong_19 oI_1 ?_
      exact A_zret' rfl (Or.inr rfl) dX12_isAmong_20
    · refine A_iinc dX12_isAmong_21 rfl oI_1 (Nat.le_of_ble_eq_true rfl) rfl ?_
      refine A_goto (tgt := 2) dX12_isAmong_24 (by decide) ?_
      exact h2
  have h0 : AW S l RX12 cX12_isAmong 3 (some .boolean) 9 ki (some (xam [115, 120, 102, 119, 112] x1, M)) 2 [some (xr 1001), some (xi x1), some (xi 0)] [] M := by
    refine A_iload_n dX12_isAmong_2 rfl ?_
    refine A_aload_n dX12_isAmong_3 rfl ?_
    refine A_callTp (i := 1) (by decide) (a_len1 _) lt_len rfl (by decide) (Nat.le_of_ble_eq_true rfl) rfl dX12_isAmong_4 ?_
    refine AW.eq (o' := if (5 : Int32) ≤ 0 then none else some (xam [115, 120, 102, 119, 112] x1, M)) ?_ (by rw [if_neg (by decide)])
    refine A_icmp_ge (tgt := 27) dX12_isAmong_7 (by decide) (fun h => absurd h (by decide)) (fun _ => ?_)
    refine A_aload_n dX12_isAmong_10 rfl ?_
    refine A_iload_n dX12_isAmong_11 rfl ?_
    refine AW.eq (o' := if (0 : Int32) < 0 ∨ (xtx 1001).length ≤ (0 : Int32).toNatClampNeg then none else some (xam [115, 120, 102, 119, 112] x1, M)) ?_ (by rw [if_neg (by decide)])
    refine A_chr (by decide) (by decide) (Nat.le_of_ble_eq_true rfl) dX12_isAmong_12 (fun _ => ?_)
    rw [show (xtx 1001).getD (0 : Int32).toNatClampNeg 0 = 115 by decide]
    refine A_iload_n dX12_isAmong_15 rfl ?_
    show AW S l RX12 cX12_isAmong 3 (some .boolean) 9 ki (some (if (115 : Int32) = x1 then 1 else xam [120, 102, 119, 112] x1, M)) _ _ _ M
    refine A_icmp_ne_p (tgt := 21) dX12_isAmong_16 (by decide) (fun _ => ?_) (fun _ => ?_)
    · refine A_iconst (v := (1 : Int32)) dX12_isAmong_19 oI_1 ?_
      exact A_zret' rfl (Or.inr rfl) dX12_isAmong_20
    · refine A_iinc dX12_isAmong_21 rfl oI_1 (Nat.le_of_ble_eq_true rfl) rfl ?_
      refine A_goto (tgt := 2) dX12_isAmong_24 (by decide) ?_
      exact h1
  refine A_iconst (v := (0 : Int32)) dX12_isAmong_0 oI_0 ?_
  refine A_istore_n dX12_isAmong_1 (Nat.le_of_ble_eq_true rfl) rfl ?_
  exact h0
theorem a_X12_isAmong {l : Launch} (s : Nat) (x1 : Int32) (M : xM) (hs : s = 1000 ∨ s = 1001 := by decide) : AM SM l yX12_isAmong cX12_isAmong 3 (some .boolean) 9 ki [xr s, xi x1] M (some (P_X12_isAmong s x1 M, M)) := by
  rcases hs with rfl | rfl
  · exact AM.of (L0 := [some (xr 1000), some (xi x1), none]) (w_among0 x1 M) (by decide +kernel) rfl (Nat.le_of_ble_eq_true rfl) ⟨rfl, rfl, trivial⟩
  · exact AM.of (L0 := [some (xr 1001), some (xi x1), none]) (w_among1 x1 M) (by decide +kernel) rfl (Nat.le_of_ble_eq_true rfl) ⟨rfl, rfl, trivial⟩
