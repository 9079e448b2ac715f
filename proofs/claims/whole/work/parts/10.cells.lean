theorem oB_16 : (Int8.ofInt (16)).toInt32 = (16 : Int32) := by decide +kernel
theorem oB_30 : (Int8.ofInt (30)).toInt32 = (30 : Int32) := by decide +kernel
theorem oB_32 : (Int8.ofInt (32)).toInt32 = (32 : Int32) := by decide +kernel
theorem oB_63 : (Int8.ofInt (63)).toInt32 = (63 : Int32) := by decide +kernel
theorem oB_8 : (Int8.ofInt (8)).toInt32 = (8 : Int32) := by decide +kernel
theorem oI_0 : Int32.ofInt (0) = (0 : Int32) := by decide +kernel
theorem oI_1 : Int32.ofInt (1) = (1 : Int32) := by decide +kernel
theorem oI_16 : Int32.ofInt (16) = (16 : Int32) := by decide +kernel
theorem oI_2 : Int32.ofInt (2) = (2 : Int32) := by decide +kernel
theorem oI_4 : Int32.ofInt (4) = (4 : Int32) := by decide +kernel
theorem oI_8 : Int32.ofInt (8) = (8 : Int32) := by decide +kernel
theorem oI_m1 : Int32.ofInt (-1) = (-1 : Int32) := by decide +kernel
theorem oS_256 : (Int16.ofInt (256)).toInt32 = (256 : Int32) := by decide +kernel
theorem lk_J6_264 : Jvm.Cond.constant RJ6 264 (65536) ∈ lw_g := lw_gm 1211 (by decide +kernel) rfl
theorem lk_J6_265 : Jvm.Cond.constant RJ6 265 (1431655765) ∈ lw_g := lw_gm 522 (by decide +kernel) rfl
theorem lk_J6_266 : Jvm.Cond.constant RJ6 266 (858993459) ∈ lw_g := lw_gm 523 (by decide +kernel) rfl
theorem lk_J6_267 : Jvm.Cond.constant RJ6 267 (252645135) ∈ lw_g := lw_gm 524 (by decide +kernel) rfl
theorem lc_X1_13 : xlS RX1 13 Lib.Math.max.name Lib.Math.max.code 2 (some .int) 2 := ⟨⟨lw_gm 143 (by decide +kernel) rfl, lw_gm 107 (by decide +kernel) rfl, lw_gm 145 (by decide +kernel) rfl, ⟨by decide, by decide, by decide +kernel⟩, by decide⟩, lw_gm 144 (by decide +kernel) rfl⟩
theorem lc_X1_16 : xlS RX1 16 yJ9_floorMod_7cf53 cJ9_floorMod_7cf53 3 (some .int) 2 := ⟨⟨lw_gm 899 (by decide +kernel) rfl, lw_gm 107 (by decide +kernel) rfl, lw_gm 901 (by decide +kernel) rfl, ⟨by decide, by decide, by decide +kernel⟩, by decide⟩, lw_gm 900 (by decide +kernel) rfl⟩
theorem lc_X1_19 : xlS RX1 19 yX1_bit cX1_bit 1 (some .int) 1 := ⟨⟨lw_gm 513 (by decide +kernel) rfl, lw_gm 106 (by decide +kernel) rfl, lw_gm 515 (by decide +kernel) rfl, ⟨by decide, by decide, by decide +kernel⟩, by decide⟩, lw_gm 514 (by decide +kernel) rfl⟩
theorem lc_X1_25 : xlS RX1 25 yJ6_bitCount_0f7a4 cJ6_bitCount_0f7a4 1 (some .int) 1 := ⟨⟨lw_gm 594 (by decide +kernel) rfl, lw_gm 118 (by decide +kernel) rfl, lw_gm 521 (by decide +kernel) rfl, ⟨by decide, by decide, by decide +kernel⟩, by decide⟩, lw_gm 520 (by decide +kernel) rfl⟩
theorem lc_X1_7 : xlS RX1 7 Lib.Math.min.name Lib.Math.min.code 2 (some .int) 2 := ⟨⟨lw_gm 140 (by decide +kernel) rfl, lw_gm 107 (by decide +kernel) rfl, lw_gm 142 (by decide +kernel) rfl, ⟨by decide, by decide, by decide +kernel⟩, by decide⟩, lw_gm 141 (by decide +kernel) rfl⟩
def P_J6_bitCount_0f7a4    (x0 : Int32) (M : xM) : Int32 :=
  ((((((((x0 - (((x0.toUInt32 >>> ((1 : Int32).toUInt32 &&& Int32.toUInt32 31)).toInt32) &&& (1431655765 : Int32))) &&& (858993459 : Int32)) + ((((x0 - (((x0.toUInt32 >>> ((1 : Int32).toUInt32 &&& Int32.toUInt32 31)).toInt32) &&& (1431655765 : Int32))).toUInt32 >>> ((2 : Int32).toUInt32 &&& Int32.toUInt32 31)).toInt32) &&& (858993459 : Int32))) + (((((x0 - (((x0.toUInt32 >>> ((1 : Int32).toUInt32 &&& Int32.toUInt32 31)).toInt32) &&& (1431655765 : Int32))) &&& (858993459 : Int32)) + ((((x0 - (((x0.toUInt32 >>> ((1 : Int32).toUInt32 &&& Int32.toUInt32 31)).toInt32) &&& (1431655765 : Int32))).toUInt32 >>> ((2 : Int32).toUInt32 &&& Int32.toUInt32 31)).toInt32) &&& (858993459 : Int32))).toUInt32 >>> ((4 : Int32).toUInt32 &&& Int32.toUInt32 31)).toInt32)) &&& (252645135 : Int32)) + (((((((x0 - (((x0.toUInt32 >>> ((1 : Int32).toUInt32 &&& Int32.toUInt32 31)).toInt32) &&& (1431655765 : Int32))) &&& (858993459 : Int32)) + ((((x0 - (((x0.toUInt32 >>> ((1 : Int32).toUInt32 &&& Int32.toUInt32 31)).toInt32) &&& (1431655765 : Int32))).toUInt32 >>> ((2 : Int32).toUInt32 &&& Int32.toUInt32 31)).toInt32) &&& (858993459 : Int32))) + (((((x0 - (((x0.toUInt32 >>> ((1 : Int32).toUInt32 &&& Int32.toUInt32 31)).toInt32) &&& (1431655765 : Int32))) &&& (858993459 : Int32)) + ((((x0 - (((x0.toUInt32 >>> ((1 : Int32).toUInt32 &&& Int32.toUInt32 31)).toInt32) &&& (1431655765 : Int32))).toUInt32 >>> ((2 : Int32).toUInt32 &&& Int32.toUInt32 31)).toInt32) &&& (858993459 : Int32))).toUInt32 >>> ((4 : Int32).toUInt32 &&& Int32.toUInt32 31)).toInt32)) &&& (252645135 : Int32)).toUInt32 >>> ((8 : Int32).toUInt32 &&& Int32.toUInt32 31)).toInt32)) + ((((((((x0 - (((x0.toUInt32 >>> ((1 : Int32).toUInt32 &&& Int32.toUInt32 31)).toInt32) &&& (1431655765 : Int32))) &&& (858993459 : Int32)) + ((((x0 - (((x0.toUInt32 >>> ((1 : Int32).toUInt32 &&& Int32.toUInt32 31)).toInt32) &&& (1431655765 : Int32))).toUInt32 >>> ((2 : Int32).toUInt32 &&& Int32.toUInt32 31)).toInt32) &&& (858993459 : Int32))) + (((((x0 - (((x0.toUInt32 >>> ((1 : Int32).toUInt32 &&& Int32.toUInt32 31)).toInt32) &&& (1431655765 : Int32))) &&& (858993459 : Int32)) + ((((x0 - (((x0.toUInt32 >>> ((1 : Int32).toUInt32 &&& Int32.toUInt32 31)).toInt32) &&& (1431655765 : Int32))).toUInt32 >>> ((2 : Int32).toUInt32 &&& Int32.toUInt32 31)).toInt32) &&& (858993459 : Int32))).toUInt32 >>> ((4 : Int32).toUInt32 &&& Int32.toUInt32 31)).toInt32)) &&& (252645135 : Int32)) + (((((((x0 - (((x0.toUInt32 >>> ((1 : Int32).toUInt32 &&& Int32.toUInt32 31)).toInt32) &&& (1431655765 : Int32))) &&& (858993459 : Int32)) + ((((x0 - (((x0.toUInt32 >>> ((1 : Int32).toUInt32 &&& Int32.toUInt32 31)).toInt32) &&& (1431655765 : Int32))).toUInt32 >>> ((2 : Int32).toUInt32 &&& Int32.toUInt32 31)).toInt32) &&& (858993459 : Int32))) + (((((x0 - (((x0.toUInt32 >>> ((1 : Int32).toUInt32 &&& Int32.toUInt32 31)).toInt32) &&& (1431655765 : Int32))) &&& (858993459 : Int32)) + ((((x0 - (((x0.toUInt32 >>> ((1 : Int32).toUInt32 &&& Int32.toUInt32 31)).toInt32) &&& (1431655765 : Int32))).toUInt32 >>> ((2 : Int32).toUInt32 &&& Int32.toUInt32 31)).toInt32) &&& (858993459 : Int32))).toUInt32 >>> ((4 : Int32).toUInt32 &&& Int32.toUInt32 31)).toInt32)) &&& (252645135 : Int32)).toUInt32 >>> ((8 : Int32).toUInt32 &&& Int32.toUInt32 31)).toInt32)).toUInt32 >>> ((16 : Int32).toUInt32 &&& Int32.toUInt32 31)).toInt32)) &&& (63 : Int32))
set_option maxRecDepth 100000 in
set_option maxHeartbeats 4000000 in
theorem w_J6_bitCount_0f7a4 {S : xS} {l : Launch}     (x0 : Int32) (M : xM)  : AW S l RJ6 cJ6_bitCount_0f7a4 1 (some .int) 0 ki (some (P_J6_bitCount_0f7a4  x0 M, M)) 0 [some (xi x0)] [] M := by
  unfold P_J6_bitCount_0f7a4
  refine A_iload_n dJ6_bitCount_0f7a4_0 rfl ?_
  refine A_iload_n dJ6_bitCount_0f7a4_1 rfl ?_
  refine A_iconst (v := (1 : Int32)) dJ6_bitCount_0f7a4_2 oI_1 ?_
  refine A_iushr dJ6_bitCount_0f7a4_3 ?_
  refine A_ldcw (v := (1431655765 : Int32)) dJ6_bitCount_0f7a4_4 lk_J6_265 ?_
  refine A_iand dJ6_bitCount_0f7a4_7 ?_
  refine A_isub dJ6_bitCount_0f7a4_8 ?_
  refine A_istore_n dJ6_bitCount_0f7a4_9 (Nat.le_of_ble_eq_true rfl) rfl ?_
  refine A_iload_n dJ6_bitCount_0f7a4_10 rfl ?_
  refine A_ldcw (v := (858993459 : Int32)) dJ6_bitCount_0f7a4_11 lk_J6_266 ?_
  refine A_iand dJ6_bitCount_0f7a4_14 ?_
  refine A_iload_n dJ6_bitCount_0f7a4_15 rfl ?_
  refine A_iconst (v := (2 : Int32)) dJ6_bitCount_0f7a4_16 oI_2 ?_
  refine A_iushr dJ6_bitCount_0f7a4_17 ?_
  refine A_ldcw (v := (858993459 : Int32)) dJ6_bitCount_0f7a4_18 lk_J6_266 ?_
  refine A_iand dJ6_bitCount_0f7a4_21 ?_
  refine A_iadd dJ6_bitCount_0f7a4_22 ?_
  refine A_istore_n dJ6_bitCount_0f7a4_23 (Nat.le_of_ble_eq_true rfl) rfl ?_
  refine A_iload_n dJ6_bitCount_0f7a4_24 rfl ?_
  refine A_iload_n dJ6_bitCount_0f7a4_25 rfl ?_
  refine A_iconst (v := (4 : Int32)) dJ6_bitCount_0f7a4_26 oI_4 ?_
  refine A_iushr dJ6_bitCount_0f7a4_27 ?_
  refine A_iadd dJ6_bitCount_0f7a4_28 ?_
  refine A_ldcw (v := (252645135 : Int32)) dJ6_bitCount_0f7a4_29 lk_J6_267 ?_
  refine A_iand dJ6_bitCount_0f7a4_32 ?_
  refine A_istore_n dJ6_bitCount_0f7a4_33 (Nat.le_of_ble_eq_true rfl) rfl ?_
  refine A_iload_n dJ6_bitCount_0f7a4_34 rfl ?_
  refine A_iload_n dJ6_bitCount_0f7a4_35 rfl ?_
  refine A_bipush (v := (8 : Int32)) dJ6_bitCount_0f7a4_36 oB_8 ?_
  refine A_iushr dJ6_bitCount_0f7a4_38 ?_
  refine A_iadd dJ6_bitCount_0f7a4_39 ?_
  refine A_istore_n dJ6_bitCount_0f7a4_40 (Nat.le_of_ble_eq_true rfl) rfl ?_
  refine A_iload_n dJ6_bitCount_0f7a4_41 rfl ?_
  refine A_iload_n dJ6_bitCount_0f7a4_42 rfl ?_
  refine A_bipush (v := (16 : Int32)) dJ6_bitCount_0f7a4_43 oB_16 ?_
  refine A_iushr dJ6_bitCount_0f7a4_45 ?_
  refine A_iadd dJ6_bitCount_0f7a4_46 ?_
  refine A_istore_n dJ6_bitCount_0f7a4_47 (Nat.le_of_ble_eq_true rfl) rfl ?_
  refine A_iload_n dJ6_bitCount_0f7a4_48 rfl ?_
  refine A_bipush (v := (63 : Int32)) dJ6_bitCount_0f7a4_49 oB_63 ?_
  refine A_iand dJ6_bitCount_0f7a4_51 ?_
  exact A_iret rfl dJ6_bitCount_0f7a4_52
theorem a_J6_bitCount_0f7a4 {S : xS} {l : Launch}  (x0 : Int32) (M : xM)  : AM S l yJ6_bitCount_0f7a4 cJ6_bitCount_0f7a4 1 (some .int) 0 ki [xi x0] M (some (P_J6_bitCount_0f7a4   x0 M, M)) :=
  AM.of (L0 := [some (xi x0)]) (w_J6_bitCount_0f7a4 (l := l)  x0 M ) (by decide +kernel) rfl (Nat.le_of_ble_eq_true rfl) ⟨rfl, trivial⟩
def P_J6_numberOfTrailingZeros_0f7a4_b74    (x0 : Int32) (x1 : Int32) (M : xM) : Int32 :=
  (x1 + ((x0.toUInt32 >>> ((1 : Int32).toUInt32 &&& Int32.toUInt32 31)).toInt32))
set_option maxRecDepth 100000 in
set_option maxHeartbeats 4000000 in
theorem a_J6_numberOfTrailingZeros_0f7a4_b74 {S : xS} {l : Launch}     (x0 : Int32) (x1 : Int32) (M : xM)  : AW S l RJ6 cJ6_numberOfTrailingZeros_0f7a4 2 (some .int) 0 ki (some (P_J6_numberOfTrailingZeros_0f7a4_b74  x0 x1 M, M)) 74 [some (xi x0), some (xi x1)] [] M := by
  unfold P_J6_numberOfTrailingZeros_0f7a4_b74
  refine A_iload_n dJ6_numberOfTrailingZeros_0f7a4_74 rfl ?_
  refine A_iload_n dJ6_numberOfTrailingZeros_0f7a4_75 rfl ?_
  refine A_iconst (v := (1 : Int32)) dJ6_numberOfTrailingZeros_0f7a4_76 oI_1 ?_
  refine A_iushr dJ6_numberOfTrailingZeros_0f7a4_77 ?_
  refine A_iadd dJ6_numberOfTrailingZeros_0f7a4_78 ?_
  exact A_iret rfl dJ6_numberOfTrailingZeros_0f7a4_79
def P_J6_numberOfTrailingZeros_0f7a4_b62    (x0 : Int32) (x1 : Int32) (M : xM) : Int32 :=
  (if x0 ≤ (4 : Int32) then
  P_J6_numberOfTrailingZeros_0f7a4_b74  x0 x1 M
  else
  P_J6_numberOfTrailingZeros_0f7a4_b74  ((x0.toUInt32 >>> ((2 : Int32).toUInt32 &&& Int32.toUInt32 31)).toInt32) (x1 + (2 : Int32)) M)
set_option maxRecDepth 100000 in
set_option maxHeartbeats 4000000 in
theorem a_J6_numberOfTrailingZeros_0f7a4_b62 {S : xS} {l : Launch}     (x0 : Int32) (x1 : Int32) (M : xM)  : AW S l RJ6 cJ6_numberOfTrailingZeros_0f7a4 2 (some .int) 0 ki (some (P_J6_numberOfTrailingZeros_0f7a4_b62  x0 x1 M, M)) 62 [some (xi x0), some (xi x1)] [] M := by
  unfold P_J6_numberOfTrailingZeros_0f7a4_b62
  refine A_iload_n dJ6_numberOfTrailingZeros_0f7a4_62 rfl ?_
  refine A_iconst (v := (4 : Int32)) dJ6_numberOfTrailingZeros_0f7a4_63 oI_4 ?_
  refine A_icmp_le_p (tgt := 74) dJ6_numberOfTrailingZeros_0f7a4_64 (by decide) (fun _ => ?_) (fun _ => ?_)
  · exact (a_J6_numberOfTrailingZeros_0f7a4_b74 (l := l)  _ _ _ ).sub ⟨rfl, rfl, trivial⟩
  · refine A_iinc dJ6_numberOfTrailingZeros_0f7a4_67 rfl oI_2 (Nat.le_of_ble_eq_true rfl) rfl ?_
    refine A_iload_n dJ6_numberOfTrailingZeros_0f7a4_70 rfl ?_
    refine A_iconst (v := (2 : Int32)) dJ6_numberOfTrailingZeros_0f7a4_71 oI_2 ?_
    refine A_iushr dJ6_numberOfTrailingZeros_0f7a4_72 ?_
    refine A_istore_n dJ6_numberOfTrailingZeros_0f7a4_73 (Nat.le_of_ble_eq_true rfl) rfl ?_
    exact (a_J6_numberOfTrailingZeros_0f7a4_b74 (l := l)  _ _ _ ).sub ⟨rfl, rfl, trivial⟩
def P_J6_numberOfTrailingZeros_0f7a4_b49    (x0 : Int32) (x1 : Int32) (M : xM) : Int32 :=
  (if x0 ≤ (16 : Int32) then
  P_J6_numberOfTrailingZeros_0f7a4_b62  x0 x1 M
  else
  P_J6_numberOfTrailingZeros_0f7a4_b62  ((x0.toUInt32 >>> ((4 : Int32).toUInt32 &&& Int32.toUInt32 31)).toInt32) (x1 + (4 : Int32)) M)
set_option maxRecDepth 100000 in
set_option maxHeartbeats 4000000 in
theorem a_J6_numberOfTrailingZeros_0f7a4_b49 {S : xS} {l : Launch}     (x0 : Int32) (x1 : Int32) (M : xM)  : AW S l RJ6 cJ6_numberOfTrailingZeros_0f7a4 2 (some .int) 0 ki (some (P_J6_numberOfTrailingZeros_0f7a4_b49  x0 x1 M, M)) 49 [some (xi x0), some (xi x1)] [] M := by
  unfold P_J6_numberOfTrailingZeros_0f7a4_b49
  refine A_iload_n dJ6_numberOfTrailingZeros_0f7a4_49 rfl ?_
  refine A_bipush (v := (16 : Int32)) dJ6_numberOfTrailingZeros_0f7a4_50 oB_16 ?_
  refine A_icmp_le_p (tgt := 62) dJ6_numberOfTrailingZeros_0f7a4_52 (by decide) (fun _ => ?_) (fun _ => ?_)
  · exact (a_J6_numberOfTrailingZeros_0f7a4_b62 (l := l)  _ _ _ ).sub ⟨rfl, rfl, trivial⟩
  · refine A_iinc dJ6_numberOfTrailingZeros_0f7a4_55 rfl oI_4 (Nat.le_of_ble_eq_true rfl) rfl ?_
    refine A_iload_n dJ6_numberOfTrailingZeros_0f7a4_58 rfl ?_
    refine A_iconst (v := (4 : Int32)) dJ6_numberOfTrailingZeros_0f7a4_59 oI_4 ?_
    refine A_iushr dJ6_numberOfTrailingZeros_0f7a4_60 ?_
    refine A_istore_n dJ6_numberOfTrailingZeros_0f7a4_61 (Nat.le_of_ble_eq_true rfl) rfl ?_
    exact (a_J6_numberOfTrailingZeros_0f7a4_b62 (l := l)  _ _ _ ).sub ⟨rfl, rfl, trivial⟩
def P_J6_numberOfTrailingZeros_0f7a4_b34    (x0 : Int32) (x1 : Int32) (M : xM) : Int32 :=
  (if x0 ≤ (256 : Int32) then
  P_J6_numberOfTrailingZeros_0f7a4_b49  x0 x1 M
  else
  P_J6_numberOfTrailingZeros_0f7a4_b49  ((x0.toUInt32 >>> ((8 : Int32).toUInt32 &&& Int32.toUInt32 31)).toInt32) (x1 + (8 : Int32)) M)
set_option maxRecDepth 100000 in
set_option maxHeartbeats 4000000 in
theorem a_J6_numberOfTrailingZeros_0f7a4_b34 {S : xS} {l : Launch}     (x0 : Int32) (x1 : Int32) (M : xM)  : AW S l RJ6 cJ6_numberOfTrailingZeros_0f7a4 2 (some .int) 0 ki (some (P_J6_numberOfTrailingZeros_0f7a4_b34  x0 x1 M, M)) 34 [some (xi x0), some (xi x1)] [] M := by
  unfold P_J6_numberOfTrailingZeros_0f7a4_b34
  refine A_iload_n dJ6_numberOfTrailingZeros_0f7a4_34 rfl ?_
  refine A_sipush (v := (256 : Int32)) dJ6_numberOfTrailingZeros_0f7a4_35 oS_256 ?_
  refine A_icmp_le_p (tgt := 49) dJ6_numberOfTrailingZeros_0f7a4_38 (by decide) (fun _ => ?_) (fun _ => ?_)
  · exact (a_J6_numberOfTrailingZeros_0f7a4_b49 (l := l)  _ _ _ ).sub ⟨rfl, rfl, trivial⟩
  · refine A_iinc dJ6_numberOfTrailingZeros_0f7a4_41 rfl oI_8 (Nat.le_of_ble_eq_true rfl) rfl ?_
    refine A_iload_n dJ6_numberOfTrailingZeros_0f7a4_44 rfl ?_
    refine A_bipush (v := (8 : Int32)) dJ6_numberOfTrailingZeros_0f7a4_45 oB_8 ?_
    refine A_iushr dJ6_numberOfTrailingZeros_0f7a4_47 ?_
    refine A_istore_n dJ6_numberOfTrailingZeros_0f7a4_48 (Nat.le_of_ble_eq_true rfl) rfl ?_
    exact (a_J6_numberOfTrailingZeros_0f7a4_b49 (l := l)  _ _ _ ).sub ⟨rfl, rfl, trivial⟩
def P_J6_numberOfTrailingZeros_0f7a4    (x0 : Int32) (M : xM) : Int32 :=
  (if 0 < ((x0 ^^^ (-1 : Int32)) &&& (x0 - (1 : Int32))) then
  (if ((x0 ^^^ (-1 : Int32)) &&& (x0 - (1 : Int32))) ≤ (65536 : Int32) then
  P_J6_numberOfTrailingZeros_0f7a4_b34  ((x0 ^^^ (-1 : Int32)) &&& (x0 - (1 : Int32))) (1 : Int32) M
  else
  P_J6_numberOfTrailingZeros_0f7a4_b34  ((((x0 ^^^ (-1 : Int32)) &&& (x0 - (1 : Int32))).toUInt32 >>> ((16 : Int32).toUInt32 &&& Int32.toUInt32 31)).toInt32) ((1 : Int32) + (16 : Int32)) M)
  else
  (((x0 ^^^ (-1 : Int32)) &&& (x0 - (1 : Int32))) &&& (32 : Int32)))
set_option maxRecDepth 100000 in
set_option maxHeartbeats 4000000 in
theorem w_J6_numberOfTrailingZeros_0f7a4 {S : xS} {l : Launch}     (x0 : Int32) (M : xM)  : AW S l RJ6 cJ6_numberOfTrailingZeros_0f7a4 2 (some .int) 0 ki (some (P_J6_numberOfTrailingZeros_0f7a4  x0 M, M)) 0 [some (xi x0), none] [] M := by
  unfold P_J6_numberOfTrailingZeros_0f7a4
  refine A_iload_n dJ6_numberOfTrailingZeros_0f7a4_0 rfl ?_
  refine A_iconst (v := (-1 : Int32)) dJ6_numberOfTrailingZeros_0f7a4_1 oI_m1 ?_
  refine A_ixor dJ6_numberOfTrailingZeros_0f7a4_2 ?_
  refine A_iload_n dJ6_numberOfTrailingZeros_0f7a4_3 rfl ?_
  refine A_iconst (v := (1 : Int32)) dJ6_numberOfTrailingZeros_0f7a4_4 oI_1 ?_
  refine A_isub dJ6_numberOfTrailingZeros_0f7a4_5 ?_
  refine A_iand dJ6_numberOfTrailingZeros_0f7a4_6 ?_
  refine A_istore_n dJ6_numberOfTrailingZeros_0f7a4_7 (Nat.le_of_ble_eq_true rfl) rfl ?_
  refine A_iload_n dJ6_numberOfTrailingZeros_0f7a4_8 rfl ?_
  refine A_if_gt_p (tgt := 17) dJ6_numberOfTrailingZeros_0f7a4_9 (by decide) (fun _ => ?_) (fun _ => ?_)
  · refine A_iconst (v := (1 : Int32)) dJ6_numberOfTrailingZeros_0f7a4_17 oI_1 ?_
    refine A_istore_n dJ6_numberOfTrailingZeros_0f7a4_18 (Nat.le_of_ble_eq_true rfl) rfl ?_
    refine A_iload_n dJ6_numberOfTrailingZeros_0f7a4_19 rfl ?_
    refine A_ldcw (v := (65536 : Int32)) dJ6_numberOfTrailingZeros_0f7a4_20 lk_J6_264 ?_
    refine A_icmp_le_p (tgt := 34) dJ6_numberOfTrailingZeros_0f7a4_23 (by decide) (fun _ => ?_) (fun _ => ?_)
    · exact (a_J6_numberOfTrailingZeros_0f7a4_b34 (l := l)  _ _ _ ).sub ⟨rfl, rfl, trivial⟩
    · refine A_iinc dJ6_numberOfTrailingZeros_0f7a4_26 rfl oI_16 (Nat.le_of_ble_eq_true rfl) rfl ?_
      refine A_iload_n dJ6_numberOfTrailingZeros_0f7a4_29 rfl ?_
      refine A_bipush (v := (16 : Int32)) dJ6_numberOfTrailingZeros_0f7a4_30 oB_16 ?_
      refine A_iushr dJ6_numberOfTrailingZeros_0f7a4_32 ?_
      refine A_istore_n dJ6_numberOfTrailingZeros_0f7a4_33 (Nat.le_of_ble_eq_true rfl) rfl ?_
      exact (a_J6_numberOfTrailingZeros_0f7a4_b34 (l := l)  _ _ _ ).sub ⟨rfl, rfl, trivial⟩
  · refine A_iload_n dJ6_numberOfTrailingZeros_0f7a4_12 rfl ?_
    refine A_bipush (v := (32 : Int32)) dJ6_numberOfTrailingZeros_0f7a4_13 oB_32 ?_
    refine A_iand dJ6_numberOfTrailingZeros_0f7a4_15 ?_
    exact A_iret rfl dJ6_numberOfTrailingZeros_0f7a4_16
theorem a_J6_numberOfTrailingZeros_0f7a4 {S : xS} {l : Launch}  (x0 : Int32) (M : xM)  : AM S l yJ6_numberOfTrailingZeros_0f7a4 cJ6_numberOfTrailingZeros_0f7a4 2 (some .int) 0 ki [xi x0] M (some (P_J6_numberOfTrailingZeros_0f7a4   x0 M, M)) :=
  AM.of (L0 := [some (xi x0), none]) (w_J6_numberOfTrailingZeros_0f7a4 (l := l)  x0 M ) (by decide +kernel) rfl (Nat.le_of_ble_eq_true rfl) ⟨rfl, trivial⟩
def F_J9_floorMod_7cf53  (x0 : Int32) (x1 : Int32)   (M : xM) : Option (Int32 × xM) :=
  if x1 = 0 then none else
  (if 0 ≤ (x0 ^^^ x1) then
  some ((x0 - x0 / x1 * x1), M)
  else
  (if (x0 - x0 / x1 * x1) = 0 then
  some ((x0 - x0 / x1 * x1), M)
  else
  some (((x0 - x0 / x1 * x1) + x1), M)))
set_option maxRecDepth 100000 in
set_option maxHeartbeats 4000000 in
theorem w_J9_floorMod_7cf53 {S : xS} {l : Launch} (x0 : Int32) (x1 : Int32)     (M : xM)  : AW S l RJ9 cJ9_floorMod_7cf53 3 (some .int) 0 ki (F_J9_floorMod_7cf53 x0 x1  M) 0 [some (xi x0), some (xi x1), none] [] M := by
  unfold F_J9_floorMod_7cf53
  refine A_iload_n dJ9_floorMod_7cf53_0 rfl ?_
  refine A_iload_n dJ9_floorMod_7cf53_1 rfl ?_
  refine A_irem dJ9_floorMod_7cf53_2 (fun _ => ?_)
  refine A_istore_n dJ9_floorMod_7cf53_3 (Nat.le_of_ble_eq_true rfl) rfl ?_
  refine A_iload_n dJ9_floorMod_7cf53_4 rfl ?_
  refine A_iload_n dJ9_floorMod_7cf53_5 rfl ?_
  refine A_ixor dJ9_floorMod_7cf53_6 ?_
  refine A_if_ge (tgt := 18) dJ9_floorMod_7cf53_7 (by decide) (fun _ => ?_) (fun _ => ?_)
  · refine A_iload_n dJ9_floorMod_7cf53_18 rfl ?_
    exact A_iret rfl dJ9_floorMod_7cf53_19
  · refine A_iload_n dJ9_floorMod_7cf53_10 rfl ?_
    refine A_if_eq (tgt := 18) dJ9_floorMod_7cf53_11 (by decide) (fun _ => ?_) (fun _ => ?_)
    · refine A_iload_n dJ9_floorMod_7cf53_18 rfl ?_
      exact A_iret rfl dJ9_floorMod_7cf53_19
    · refine A_iload_n dJ9_floorMod_7cf53_14 rfl ?_
      refine A_iload_n dJ9_floorMod_7cf53_15 rfl ?_
      refine A_iadd dJ9_floorMod_7cf53_16 ?_
      exact A_iret rfl dJ9_floorMod_7cf53_17
theorem a_J9_floorMod_7cf53 {S : xS} {l : Launch}  (x0 : Int32) (x1 : Int32) (M : xM)  : AM S l yJ9_floorMod_7cf53 cJ9_floorMod_7cf53 3 (some .int) 0 ki [xi x0, xi x1] M (F_J9_floorMod_7cf53  x0 x1  M) :=
  AM.ofF (L0 := [some (xi x0), some (xi x1), none]) (w_J9_floorMod_7cf53 (l := l) x0 x1  M ) (by decide +kernel) rfl (Nat.le_of_ble_eq_true rfl) ⟨rfl, rfl, trivial⟩
def F_X1_at  (r0 n0 : Nat) (x1 : Int32)   (M : xM) : Option (Int32 × xM) :=
  (if x1 < 0 then
  some ((0 : Int32), M)
  else
  (if (Int32.ofNat n0) ≤ x1 then
  some ((0 : Int32), M)
  else
  (if x1 < 0 ∨ n0 ≤ x1.toNatClampNeg then none else
  some ((M r0 x1.toNatClampNeg), M))))
set_option maxRecDepth 100000 in
set_option maxHeartbeats 4000000 in
theorem w_X1_at {S : xS} {l : Launch} (r0 n0 : Nat) (x1 : Int32) (h0 : S[r0]? = some (.inl (0, n0)))    (M : xM)  : AW S l RX1 cX1_at 2 (some .int) 0 ki (F_X1_at r0 n0 x1  M) 0 [some (xr r0), some (xi x1)] [] M := by
  unfold F_X1_at
  refine A_aload_n dX1_at_0 rfl ?_
  refine A_ifnull dX1_at_1 ?_
  refine A_iload_n dX1_at_4 rfl ?_
  refine A_if_lt (tgt := 20) dX1_at_5 (by decide) (fun _ => ?_) (fun _ => ?_)
  · refine A_iconst (v := (0 : Int32)) dX1_at_20 oI_0 ?_
    exact A_iret rfl dX1_at_21
  · refine A_iload_n dX1_at_8 rfl ?_
    refine A_aload_n dX1_at_9 rfl ?_
    refine A_alen h0 (by decide) dX1_at_10 ?_
    refine A_icmp_ge (tgt := 20) dX1_at_11 (by decide) (fun _ => ?_) (fun _ => ?_)
    · refine A_iconst (v := (0 : Int32)) dX1_at_20 oI_0 ?_
      exact A_iret rfl dX1_at_21
    · refine A_aload_n dX1_at_14 rfl ?_
      refine A_iload_n dX1_at_15 rfl ?_
      refine A_iald h0 dX1_at_16 (fun _ => ?_)
      refine A_goto (tgt := 21) dX1_at_17 (by decide) ?_
      exact A_iret rfl dX1_at_21
theorem aF_X1_at {S : xS} {l : Launch}  (r0 n0 : Nat) (x1 : Int32) (M : xM) (h0 : S[r0]? = some (.inl (0, n0))) : AM S l yX1_at cX1_at 2 (some .int) 0 ki [xr r0, xi x1] M (F_X1_at  r0 n0 x1  M) :=
  AM.of (L0 := [some (xr r0), some (xi x1)]) (w_X1_at (l := l) r0 n0 x1 h0  M ) (by decide +kernel) rfl (Nat.le_of_ble_eq_true rfl) ⟨rfl, rfl, trivial⟩
def P_X1_at (r0 n0 : Nat) (x1 : Int32) (M : xM) : Int32 := if x1 < 0 then 0 else if Int32.ofNat n0 ≤ x1 then 0 else M r0 x1.toNatClampNeg
theorem fP_X1_at (r0 n0 : Nat) (x1 : Int32) (M : xM) : F_X1_at r0 n0 x1 M = some (P_X1_at r0 n0 x1 M, M) := by
  unfold F_X1_at P_X1_at
  by_cases h : x1 < 0
  · rw [if_pos h, if_pos h]
  · rw [if_neg h, if_neg h]
    by_cases h2 : Int32.ofNat n0 ≤ x1
    · rw [if_pos h2, if_pos h2]
    · rw [if_neg h2, if_neg h2, if_neg (xat_in h h2)]
theorem a_X1_at {S : xS} {l : Launch} (r0 n0 : Nat) (x1 : Int32) (M : xM) (h0 : S[r0]? = some (.inl (0, n0))) : AM S l yX1_at cX1_at 2 (some .int) 0 ki [xr r0, xi x1] M (some (P_X1_at r0 n0 x1 M, M)) := by
  rw [← fP_X1_at]
  exact aF_X1_at r0 n0 x1 M h0
def F_X1_put  (r0 n0 : Nat) (x1 : Int32) (x2 : Int32)   (M : xM) : Option (xM) :=
  (if x1 < 0 then
  some M
  else
  (if (Int32.ofNat n0) ≤ x1 then
  some M
  else
  (if x1 < 0 ∨ n0 ≤ x1.toNatClampNeg then none else
  some (xset M r0 x1.toNatClampNeg x2))))
set_option maxRecDepth 100000 in
set_option maxHeartbeats 4000000 in
theorem w_X1_put {S : xS} {l : Launch} (r0 n0 : Nat) (x1 : Int32) (x2 : Int32) (h0 : S[r0]? = some (.inl (0, n0)))    (M : xM)  : AW S l RX1 cX1_put 3 none 0 kv (F_X1_put r0 n0 x1 x2  M) 0 [some (xr r0), some (xi x1), some (xi x2)] [] M := by
  unfold F_X1_put
  refine A_aload_n dX1_put_0 rfl ?_
  refine A_ifnull dX1_put_1 ?_
  refine A_iload_n dX1_put_4 rfl ?_
  refine A_if_lt (tgt := 18) dX1_put_5 (by decide) (fun _ => ?_) (fun _ => ?_)
  · exact A_vret rfl dX1_put_18
  · refine A_iload_n dX1_put_8 rfl ?_
    refine A_aload_n dX1_put_9 rfl ?_
    refine A_alen h0 (by decide) dX1_put_10 ?_
    refine A_icmp_ge (tgt := 18) dX1_put_11 (by decide) (fun _ => ?_) (fun _ => ?_)
    · exact A_vret rfl dX1_put_18
    · refine A_aload_n dX1_put_14 rfl ?_
      refine A_iload_n dX1_put_15 rfl ?_
      refine A_iload_n dX1_put_16 rfl ?_
      refine A_iast h0 dX1_put_17 (fun _ => ?_)
      exact A_vret rfl dX1_put_18
theorem a_X1_put {S : xS} {l : Launch}  (r0 n0 : Nat) (x1 : Int32) (x2 : Int32) (M : xM) (h0 : S[r0]? = some (.inl (0, n0))) : AM S l yX1_put cX1_put 3 none 0 kv [xr r0, xi x1, xi x2] M (F_X1_put  r0 n0 x1 x2  M) :=
  AM.of (L0 := [some (xr r0), some (xi x1), some (xi x2)]) (w_X1_put (l := l) r0 n0 x1 x2 h0  M ) (by decide +kernel) rfl (Nat.le_of_ble_eq_true rfl) ⟨rfl, rfl, rfl, trivial⟩
def F_X1_swap  (r0 n0 : Nat) (x1 : Int32) (x2 : Int32)   (M : xM) : Option (xM) :=
  (if x1 < 0 then
  some M
  else
  (if (Int32.ofNat n0) ≤ x1 then
  some M
  else
  (if x2 < 0 then
  some M
  else
  (if (Int32.ofNat n0) ≤ x2 then
  some M
  else
  (if x1 < 0 ∨ n0 ≤ x1.toNatClampNeg then none else
  (if x2 < 0 ∨ n0 ≤ x2.toNatClampNeg then none else
  (if x1 < 0 ∨ n0 ≤ x1.toNatClampNeg then none else
  (if x2 < 0 ∨ n0 ≤ x2.toNatClampNeg then none else
  some (xset (xset M r0 x1.toNatClampNeg (M r0 x2.toNatClampNeg)) r0 x2.toNatClampNeg (M r0 x1.toNatClampNeg))))))))))
set_option maxRecDepth 100000 in
set_option maxHeartbeats 4000000 in
theorem w_X1_swap {S : xS} {l : Launch} (r0 n0 : Nat) (x1 : Int32) (x2 : Int32) (h0 : S[r0]? = some (.inl (0, n0)))    (M : xM)  : AW S l RX1 cX1_swap 4 none 0 kv (F_X1_swap r0 n0 x1 x2  M) 0 [some (xr r0), some (xi x1), some (xi x2), none] [] M := by
  unfold F_X1_swap
  refine A_aload_n dX1_swap_0 rfl ?_
  refine A_ifnull dX1_swap_1 ?_
  refine A_iload_n dX1_swap_4 rfl ?_
  refine A_if_lt (tgt := 38) dX1_swap_5 (by decide) (fun _ => ?_) (fun _ => ?_)
  · exact A_vret rfl dX1_swap_38
  · refine A_iload_n dX1_swap_8 rfl ?_
    refine A_aload_n dX1_swap_9 rfl ?_
    refine A_alen h0 (by decide) dX1_swap_10 ?_
    refine A_icmp_ge (tgt := 38) dX1_swap_11 (by decide) (fun _ => ?_) (fun _ => ?_)
    · exact A_vret rfl dX1_swap_38
    · refine A_iload_n dX1_swap_14 rfl ?_
      refine A_if_lt (tgt := 38) dX1_swap_15 (by decide) (fun _ => ?_) (fun _ => ?_)
      · exact A_vret rfl dX1_swap_38
      · refine A_iload_n dX1_swap_18 rfl ?_
        refine A_aload_n dX1_swap_19 rfl ?_
        refine A_alen h0 (by decide) dX1_swap_20 ?_
        refine A_icmp_ge (tgt := 38) dX1_swap_21 (by decide) (fun _ => ?_) (fun _ => ?_)
        · exact A_vret rfl dX1_swap_38
        · refine A_aload_n dX1_swap_24 rfl ?_
          refine A_iload_n dX1_swap_25 rfl ?_
          refine A_iald h0 dX1_swap_26 (fun _ => ?_)
          refine A_istore_n dX1_swap_27 (Nat.le_of_ble_eq_true rfl) rfl ?_
          refine A_aload_n dX1_swap_28 rfl ?_
          refine A_iload_n dX1_swap_29 rfl ?_
          refine A_aload_n dX1_swap_30 rfl ?_
          refine A_iload_n dX1_swap_31 rfl ?_
          refine A_iald h0 dX1_swap_32 (fun _ => ?_)
          refine A_iast h0 dX1_swap_33 (fun _ => ?_)
          refine A_aload_n dX1_swap_34 rfl ?_
          refine A_iload_n dX1_swap_35 rfl ?_
          refine A_iload_n dX1_swap_36 rfl ?_
          refine A_iast h0 dX1_swap_37 (fun _ => ?_)
          exact A_vret rfl dX1_swap_38
theorem a_X1_swap {S : xS} {l : Launch}  (r0 n0 : Nat) (x1 : Int32) (x2 : Int32) (M : xM) (h0 : S[r0]? = some (.inl (0, n0))) : AM S l yX1_swap cX1_swap 4 none 0 kv [xr r0, xi x1, xi x2] M (F_X1_swap  r0 n0 x1 x2  M) :=
  AM.of (L0 := [some (xr r0), some (xi x1), some (xi x2), none]) (w_X1_swap (l := l) r0 n0 x1 x2 h0  M ) (by decide +kernel) rfl (Nat.le_of_ble_eq_true rfl) ⟨rfl, rfl, rfl, trivial⟩
def P_X1_within  (x0 : Int32) (x1 : Int32) (x2 : Int32)   (M : xM) : Int32 :=
  (if x0 < x1 then
  (0 : Int32)
  else
  (if x2 < x0 then
  (0 : Int32)
  else
  (1 : Int32)))
set_option maxRecDepth 100000 in
set_option maxHeartbeats 4000000 in
theorem w_X1_within {S : xS} {l : Launch} (x0 : Int32) (x1 : Int32) (x2 : Int32)     (M : xM)  : AW S l RX1 cX1_within 3 (some .boolean) 0 ki (some (P_X1_within x0 x1 x2  M, M)) 0 [some (xi x0), some (xi x1), some (xi x2)] [] M := by
  unfold P_X1_within
  refine A_iload_n dX1_within_0 rfl ?_
  refine A_iload_n dX1_within_1 rfl ?_
  refine A_icmp_lt_p (tgt := 14) dX1_within_2 (by decide) (fun _ => ?_) (fun _ => ?_)
  · refine A_iconst (v := (0 : Int32)) dX1_within_14 oI_0 ?_
    exact A_zret' rfl (Or.inl rfl) dX1_within_15
  · refine A_iload_n dX1_within_5 rfl ?_
    refine A_iload_n dX1_within_6 rfl ?_
    refine A_icmp_gt_p (tgt := 14) dX1_within_7 (by decide) (fun _ => ?_) (fun _ => ?_)
    · refine A_iconst (v := (0 : Int32)) dX1_within_14 oI_0 ?_
      exact A_zret' rfl (Or.inl rfl) dX1_within_15
    · refine A_iconst (v := (1 : Int32)) dX1_within_10 oI_1 ?_
      refine A_goto (tgt := 15) dX1_within_11 (by decide) ?_
      exact A_zret' rfl (Or.inr rfl) dX1_within_15
theorem a_X1_within {S : xS} {l : Launch}  (x0 : Int32) (x1 : Int32) (x2 : Int32) (M : xM)  : AM S l yX1_within cX1_within 3 (some .boolean) 0 ki [xi x0, xi x1, xi x2] M (some (P_X1_within  x0 x1 x2  M, M)) :=
  AM.of (L0 := [some (xi x0), some (xi x1), some (xi x2)]) (w_X1_within (l := l) x0 x1 x2  M ) (by decide +kernel) rfl (Nat.le_of_ble_eq_true rfl) ⟨rfl, rfl, rfl, trivial⟩
theorem zP_X1_within (x0 : Int32) (x1 : Int32) (x2 : Int32) (M : xM) : P_X1_within x0 x1 x2 M = 0 ∨ P_X1_within x0 x1 x2 M = 1 := by
  unfold P_X1_within
  repeat' split
  all_goals first | decide
def P_X1_nearest  (x0 : Int32) (x1 : Int32) (x2 : Int32)   (M : xM) : Int32 :=
  (jmax x1 (jmin x2 x0))
set_option maxRecDepth 100000 in
set_option maxHeartbeats 4000000 in
theorem w_X1_nearest {S : xS} {l : Launch} (x0 : Int32) (x1 : Int32) (x2 : Int32)     (M : xM)  : AW S l RX1 cX1_nearest 3 (some .int) 2 ki (some (P_X1_nearest x0 x1 x2  M, M)) 0 [some (xi x0), some (xi x1), some (xi x2)] [] M := by
  unfold P_X1_nearest
  refine A_iload_n dX1_nearest_0 rfl ?_
  refine A_iload_n dX1_nearest_1 rfl ?_
  refine A_iload_n dX1_nearest_2 rfl ?_
  refine A_jmin lc_X1_7 (by decide) (Nat.le_of_ble_eq_true rfl) dX1_nearest_3 ?_
  refine A_jmax lc_X1_13 (by decide) (Nat.le_of_ble_eq_true rfl) dX1_nearest_6 ?_
  exact A_iret rfl dX1_nearest_9
theorem a_X1_nearest {S : xS} {l : Launch}  (x0 : Int32) (x1 : Int32) (x2 : Int32) (M : xM)  : AM S l yX1_nearest cX1_nearest 3 (some .int) 2 ki [xi x0, xi x1, xi x2] M (some (P_X1_nearest  x0 x1 x2  M, M)) :=
  AM.of (L0 := [some (xi x0), some (xi x1), some (xi x2)]) (w_X1_nearest (l := l) x0 x1 x2  M ) (by decide +kernel) rfl (Nat.le_of_ble_eq_true rfl) ⟨rfl, rfl, rfl, trivial⟩
def F_X1_modulo  (x0 : Int32) (x1 : Int32)   (M : xM) : Option (Int32 × xM) :=
  (if x1 ≤ 0 then
  some ((0 : Int32), M)
  else
  (F_J9_floorMod_7cf53 x0 x1 M).bind fun q1 =>
  some (q1.1, q1.2))
set_option maxRecDepth 100000 in
set_option maxHeartbeats 4000000 in
theorem w_X1_modulo {S : xS} {l : Launch} (x0 : Int32) (x1 : Int32)     (M : xM)  : AW S l RX1 cX1_modulo 2 (some .int) 1 ki (F_X1_modulo x0 x1  M) 0 [some (xi x0), some (xi x1)] [] M := by
  unfold F_X1_modulo
  refine A_iload_n dX1_modulo_0 rfl ?_
  refine A_if_le (tgt := 12) dX1_modulo_1 (by decide) (fun _ => ?_) (fun _ => ?_)
  · refine A_iconst (v := (0 : Int32)) dX1_modulo_12 oI_0 ?_
    exact A_iret rfl dX1_modulo_13
  · refine A_iload_n dX1_modulo_4 rfl ?_
    refine A_iload_n dX1_modulo_5 rfl ?_
    refine A_callSi (a_J9_floorMod_7cf53 (S := S) (l := l) _ _ _ ) lc_X1_16 rfl (by decide) (Nat.le_of_ble_eq_true rfl) rfl dX1_modulo_6 (fun q1 Mq1 hq1 => ?_)
    refine A_goto (tgt := 13) dX1_modulo_9 (by decide) ?_
    exact A_iret rfl dX1_modulo_13
theorem aF_X1_modulo {S : xS} {l : Launch}  (x0 : Int32) (x1 : Int32) (M : xM)  : AM S l yX1_modulo cX1_modulo 2 (some .int) 1 ki [xi x0, xi x1] M (F_X1_modulo  x0 x1  M) :=
  AM.of (L0 := [some (xi x0), some (xi x1)]) (w_X1_modulo (l := l) x0 x1  M ) (by decide +kernel) rfl (Nat.le_of_ble_eq_true rfl) ⟨rfl, rfl, trivial⟩
/-- the remainder that is never negative, by y above 0 -/
def jfm (x y : Int32) : Int32 := if 0 ≤ (x ^^^ y) then x - x / y * y else if x - x / y * y = 0 then x - x / y * y else x - x / y * y + y
theorem fm_some (x y : Int32) (M : xM) (h : ¬ y = 0) : F_J9_floorMod_7cf53 x y M = some (jfm x y, M) := by
  unfold F_J9_floorMod_7cf53 jfm
  rw [if_neg h]
  by_cases h1 : 0 ≤ (x ^^^ y)
  · rw [if_pos h1, if_pos h1]
  · rw [if_neg h1, if_neg h1]
    by_cases h2 : x - x / y * y = 0
    · rw [if_pos h2, if_pos h2]
    · rw [if_neg h2, if_neg h2]
def P_X1_modulo (x0 x1 : Int32) (M : xM) : Int32 := if x1 ≤ 0 then 0 else jfm x0 x1
theorem fP_X1_modulo (x0 x1 : Int32) (M : xM) : F_X1_modulo x0 x1 M = some (P_X1_modulo x0 x1 M, M) := by
  unfold F_X1_modulo P_X1_modulo
  by_cases h : x1 ≤ 0
  · rw [if_pos h, if_pos h]
    try rfl
  · rw [if_neg h, if_neg h, fm_some x0 x1 M (fun e => h (by rw [e]; decide))]
    rfl
theorem a_X1_modulo {S : xS} {l : Launch} (x0 x1 : Int32) (M : xM) : AM S l yX1_modulo cX1_modulo 2 (some .int) 1 ki [xi x0, xi x1] M (some (P_X1_modulo x0 x1 M, M)) := by
  rw [← fP_X1_modulo]
  exact aF_X1_modulo x0 x1 M
def P_X1_bit  (x0 : Int32)   (M : xM) : Int32 :=
  (if x0 < 0 then
  (0 : Int32)
  else
  (if (30 : Int32) < x0 then
  (0 : Int32)
  else
  ((1 : Int32) <<< (x0 &&& 31))))
set_option maxRecDepth 100000 in
set_option maxHeartbeats 4000000 in
theorem w_X1_bit {S : xS} {l : Launch} (x0 : Int32)     (M : xM)  : AW S l RX1 cX1_bit 1 (some .int) 0 ki (some (P_X1_bit x0  M, M)) 0 [some (xi x0)] [] M := by
  unfold P_X1_bit
  refine A_iload_n dX1_bit_0 rfl ?_
  refine A_if_lt_p (tgt := 16) dX1_bit_1 (by decide) (fun _ => ?_) (fun _ => ?_)
  · refine A_iconst (v := (0 : Int32)) dX1_bit_16 oI_0 ?_
    exact A_iret rfl dX1_bit_17
  · refine A_iload_n dX1_bit_4 rfl ?_
    refine A_bipush (v := (30 : Int32)) dX1_bit_5 oB_30 ?_
    refine A_icmp_gt_p (tgt := 16) dX1_bit_7 (by decide) (fun _ => ?_) (fun _ => ?_)
    · refine A_iconst (v := (0 : Int32)) dX1_bit_16 oI_0 ?_
      exact A_iret rfl dX1_bit_17
    · refine A_iconst (v := (1 : Int32)) dX1_bit_10 oI_1 ?_
      refine A_iload_n dX1_bit_11 rfl ?_
      refine A_ishl dX1_bit_12 ?_
      refine A_goto (tgt := 17) dX1_bit_13 (by decide) ?_
      exact A_iret rfl dX1_bit_17
theorem a_X1_bit {S : xS} {l : Launch}  (x0 : Int32) (M : xM)  : AM S l yX1_bit cX1_bit 1 (some .int) 0 ki [xi x0] M (some (P_X1_bit  x0  M, M)) :=
  AM.of (L0 := [some (xi x0)]) (w_X1_bit (l := l) x0  M ) (by decide +kernel) rfl (Nat.le_of_ble_eq_true rfl) ⟨rfl, trivial⟩
def P_X1_all  (x0 : Int32)   (M : xM) : Int32 :=
  ((P_X1_bit x0 M) - (1 : Int32))
set_option maxRecDepth 100000 in
set_option maxHeartbeats 4000000 in
theorem w_X1_all {S : xS} {l : Launch} (x0 : Int32)     (M : xM)  : AW S l RX1 cX1_all 1 (some .int) 1 ki (some (P_X1_all x0  M, M)) 0 [some (xi x0)] [] M := by
  unfold P_X1_all
  refine A_iload_n dX1_all_0 rfl ?_
  refine A_callSp (a_X1_bit (S := S) (l := l) _ _ ) lc_X1_19 rfl (by decide) (Nat.le_of_ble_eq_true rfl) rfl dX1_all_1 ?_
  refine A_iconst (v := (1 : Int32)) dX1_all_4 oI_1 ?_
  refine A_isub dX1_all_5 ?_
  exact A_iret rfl dX1_all_6
theorem a_X1_all {S : xS} {l : Launch}  (x0 : Int32) (M : xM)  : AM S l yX1_all cX1_all 1 (some .int) 1 ki [xi x0] M (some (P_X1_all  x0  M, M)) :=
  AM.of (L0 := [some (xi x0)]) (w_X1_all (l := l) x0  M ) (by decide +kernel) rfl (Nat.le_of_ble_eq_true rfl) ⟨rfl, trivial⟩
def P_X1_has  (x0 : Int32) (x1 : Int32)   (M : xM) : Int32 :=
  (if x1 < 0 then
  (0 : Int32)
  else
  (if (30 : Int32) < x1 then
  (0 : Int32)
  else
  (if ((x0 >>> (x1 &&& 31)) &&& (1 : Int32)) = 0 then
  (0 : Int32)
  else
  (1 : Int32))))
set_option maxRecDepth 100000 in
set_option maxHeartbeats 4000000 in
theorem w_X1_has {S : xS} {l : Launch} (x0 : Int32) (x1 : Int32)     (M : xM)  : AW S l RX1 cX1_has 2 (some .boolean) 0 ki (some (P_X1_has x0 x1  M, M)) 0 [some (xi x0), some (xi x1)] [] M := by
  unfold P_X1_has
  refine A_iload_n dX1_has_0 rfl ?_
  refine A_if_lt_p (tgt := 22) dX1_has_1 (by decide) (fun _ => ?_) (fun _ => ?_)
  · refine A_iconst (v := (0 : Int32)) dX1_has_22 oI_0 ?_
    exact A_zret' rfl (Or.inl rfl) dX1_has_23
  · refine A_iload_n dX1_has_4 rfl ?_
    refine A_bipush (v := (30 : Int32)) dX1_has_5 oB_30 ?_
    refine A_icmp_gt_p (tgt := 22) dX1_has_7 (by decide) (fun _ => ?_) (fun _ => ?_)
    · refine A_iconst (v := (0 : Int32)) dX1_has_22 oI_0 ?_
      exact A_zret' rfl (Or.inl rfl) dX1_has_23
    · refine A_iload_n dX1_has_10 rfl ?_
      refine A_iload_n dX1_has_11 rfl ?_
      refine A_ishr dX1_has_12 ?_
      refine A_iconst (v := (1 : Int32)) dX1_has_13 oI_1 ?_
      refine A_iand dX1_has_14 ?_
      refine A_if_eq_p (tgt := 22) dX1_has_15 (by decide) (fun _ => ?_) (fun _ => ?_)
      · refine A_iconst (v := (0 : Int32)) dX1_has_22 oI_0 ?_
        exact A_zret' rfl (Or.inl rfl) dX1_has_23
      · refine A_iconst (v := (1 : Int32)) dX1_has_18 oI_1 ?_
        refine A_goto (tgt := 23) dX1_has_19 (by decide) ?_
        exact A_zret' rfl (Or.inr rfl) dX1_has_23
theorem a_X1_has {S : xS} {l : Launch}  (x0 : Int32) (x1 : Int32) (M : xM)  : AM S l yX1_has cX1_has 2 (some .boolean) 0 ki [xi x0, xi x1] M (some (P_X1_has  x0 x1  M, M)) :=
  AM.of (L0 := [some (xi x0), some (xi x1)]) (w_X1_has (l := l) x0 x1  M ) (by decide +kernel) rfl (Nat.le_of_ble_eq_true rfl) ⟨rfl, rfl, trivial⟩
theorem zP_X1_has (x0 : Int32) (x1 : Int32) (M : xM) : P_X1_has x0 x1 M = 0 ∨ P_X1_has x0 x1 M = 1 := by
  unfold P_X1_has
  repeat' split
  all_goals first | decide
def P_X1_better_b36  (x0 : Int32) (x1 : Int32)   (M : xM) : Int32 :=
  (1 : Int32)
set_option maxRecDepth 100000 in
set_option maxHeartbeats 4000000 in
theorem a_X1_better_b36 {S : xS} {l : Launch} (x0 : Int32) (x1 : Int32)     (M : xM)  : AW S l RX1 cX1_better 5 (some .boolean) 1 ki (some (P_X1_better_b36 x0 x1  M, M)) 36 [none, none, none, none, none] [] M := by
  unfold P_X1_better_b36
  refine A_iconst (v := (1 : Int32)) dX1_better_36 oI_1 ?_
  refine A_goto (tgt := 41) dX1_better_37 (by decide) ?_
  exact A_zret' rfl (Or.inr rfl) dX1_better_41
def P_X1_better  (x0 : Int32) (x1 : Int32)   (M : xM) : Int32 :=
  (if 0 < ((P_J6_bitCount_0f7a4 x1 M) - (P_J6_bitCount_0f7a4 x0 M)) then
  P_X1_better_b36 x0 x1  M
  else
  (if ((P_J6_bitCount_0f7a4 x1 M) - (P_J6_bitCount_0f7a4 x0 M)) = 0 then
  (if (x0 &&& ((x0 ^^^ x1) &&& (-(x0 ^^^ x1)))) = 0 then
  (0 : Int32)
  else
  P_X1_better_b36 x0 x1  M)
  else
  (0 : Int32)))
set_option maxRecDepth 100000 in
set_option maxHeartbeats 4000000 in
theorem w_X1_better {S : xS} {l : Launch} (x0 : Int32) (x1 : Int32)     (M : xM)  : AW S l RX1 cX1_better 5 (some .boolean) 1 ki (some (P_X1_better x0 x1  M, M)) 0 [some (xi x0), some (xi x1), none, none, none] [] M := by
  unfold P_X1_better
  refine A_iload_n dX1_better_0 rfl ?_
  refine A_iload_n dX1_better_1 rfl ?_
  refine A_ixor dX1_better_2 ?_
  refine A_istore_n dX1_better_3 (Nat.le_of_ble_eq_true rfl) rfl ?_
  refine A_iload_n dX1_better_4 rfl ?_
  refine A_iload_n dX1_better_5 rfl ?_
  refine A_ineg dX1_better_6 ?_
  refine A_iand dX1_better_7 ?_
  refine A_istore_n dX1_better_8 (Nat.le_of_ble_eq_true rfl) rfl ?_
  refine A_iload_n dX1_better_9 rfl ?_
  refine A_callSp (a_J6_bitCount_0f7a4 (S := S) (l := l) _ _ ) lc_X1_25 rfl (by decide) (Nat.le_of_ble_eq_true rfl) rfl dX1_better_10 ?_
  refine A_iload_n dX1_better_13 rfl ?_
  refine A_callSp (a_J6_bitCount_0f7a4 (S := S) (l := l) _ _ ) lc_X1_25 rfl (by decide) (Nat.le_of_ble_eq_true rfl) rfl dX1_better_14 ?_
  refine A_isub dX1_better_17 ?_
  refine A_istore dX1_better_18 (Nat.le_of_ble_eq_true rfl) rfl ?_
  refine A_iload dX1_better_20 rfl ?_
  refine A_if_gt_p (tgt := 36) dX1_better_22 (by decide) (fun _ => ?_) (fun _ => ?_)
  · exact (a_X1_better_b36 (l := l) x0 x1   _ ).sub trivial
  · refine A_iload dX1_better_25 rfl ?_
    refine A_if_ne_p (tgt := 40) dX1_better_27 (by decide) (fun _ => ?_) (fun _ => ?_)
    · refine A_iload_n dX1_better_30 rfl ?_
      refine A_iload_n dX1_better_31 rfl ?_
      refine A_iand dX1_better_32 ?_
      refine A_if_eq_p (tgt := 40) dX1_better_33 (by decide) (fun _ => ?_) (fun _ => ?_)
      · refine A_iconst (v := (0 : Int32)) dX1_better_40 oI_0 ?_
        exact A_zret' rfl (Or.inl rfl) dX1_better_41
      · exact (a_X1_better_b36 (l := l) x0 x1   _ ).sub trivial
    · refine A_iconst (v := (0 : Int32)) dX1_better_40 oI_0 ?_
      exact A_zret' rfl (Or.inl rfl) dX1_better_41
theorem a_X1_better {S : xS} {l : Launch}  (x0 : Int32) (x1 : Int32) (M : xM)  : AM S l yX1_better cX1_better 5 (some .boolean) 1 ki [xi x0, xi x1] M (some (P_X1_better  x0 x1  M, M)) :=
  AM.of (L0 := [some (xi x0), some (xi x1), none, none, none]) (w_X1_better (l := l) x0 x1  M ) (by decide +kernel) rfl (Nat.le_of_ble_eq_true rfl) ⟨rfl, rfl, trivial⟩
theorem zP_X1_better (x0 : Int32) (x1 : Int32) (M : xM) : P_X1_better x0 x1 M = 0 ∨ P_X1_better x0 x1 M = 1 := by
  unfold P_X1_better
  try unfold P_X1_better_b36
  repeat' split
  all_goals first | decide
