theorem oB_20 : (Int8.ofInt (20)).toInt32 = (20 : Int32) := by decide +kernel
theorem oB_9 : (Int8.ofInt (9)).toInt32 = (9 : Int32) := by decide +kernel
theorem lf_X7_11 : xfl RX7 11 6 0 (tyX7 0) true := ⟨_, _, _, _, xc_X7, by decide, rfl, rfl, rfl, lw_gm 451 (by decide +kernel) rfl⟩
theorem lf_X7_17 : xfl RX7 17 6 1 (tyX7 1) true := ⟨_, _, _, _, xc_X7, by decide, rfl, rfl, rfl, lw_gm 452 (by decide +kernel) rfl⟩
theorem lf_X7_20 : xfl RX7 20 6 2 (tyX7 2) true := ⟨_, _, _, _, xc_X7, by decide, rfl, rfl, rfl, lw_gm 453 (by decide +kernel) rfl⟩
theorem lf_X7_23 : xfl RX7 23 6 3 (tyX7 3) true := ⟨_, _, _, _, xc_X7, by decide, rfl, rfl, rfl, lw_gm 454 (by decide +kernel) rfl⟩
theorem lf_X7_51 : xfl RX7 51 6 4 (tyX7 4) false := ⟨_, _, _, _, xc_X7, by decide, rfl, rfl, rfl, lw_gm 455 (by decide +kernel) rfl⟩
theorem lf_X7_59 : xfl RX7 59 6 5 (tyX7 5) false := ⟨_, _, _, _, xc_X7, by decide, rfl, rfl, rfl, lw_gm 456 (by decide +kernel) rfl⟩
theorem lc_X7_26 : xlS RX7 26 yX1_within cX1_within 3 (some .boolean) 3 := ⟨⟨lw_gm 1299 (by decide +kernel) rfl, lw_gm 106 (by decide +kernel) rfl, lw_gm 518 (by decide +kernel) rfl, ⟨by decide, by decide, by decide +kernel⟩, by decide⟩, lw_gm 517 (by decide +kernel) rfl⟩
theorem lc_X7_32 : xlS RX7 32 yX7_isTime cX7_isTime 1 (some .boolean) 1 := ⟨⟨lw_gm 1296 (by decide +kernel) rfl, lw_gm 116 (by decide +kernel) rfl, lw_gm 1298 (by decide +kernel) rfl, ⟨by decide, by decide, by decide +kernel⟩, by decide⟩, lw_gm 1297 (by decide +kernel) rfl⟩
theorem lc_X7_36 : xlS RX7 36 yX7_isPlace cX7_isPlace 1 (some .boolean) 1 := ⟨⟨lw_gm 1303 (by decide +kernel) rfl, lw_gm 116 (by decide +kernel) rfl, lw_gm 1305 (by decide +kernel) rfl, ⟨by decide, by decide, by decide +kernel⟩, by decide⟩, lw_gm 1304 (by decide +kernel) rfl⟩
theorem lc_X7_39 : xlS RX7 39 yX1_at cX1_at 2 (some .int) 2 := ⟨⟨lw_gm 1295 (by decide +kernel) rfl, lw_gm 106 (by decide +kernel) rfl, lw_gm 560 (by decide +kernel) rfl, ⟨by decide, by decide, by decide +kernel⟩, by decide⟩, lw_gm 559 (by decide +kernel) rfl⟩
theorem lc_X7_43 : xlS RX7 43 yX7_canBe cX7_canBe 2 (some .boolean) 2 := ⟨⟨lw_gm 1300 (by decide +kernel) rfl, lw_gm 116 (by decide +kernel) rfl, lw_gm 1302 (by decide +kernel) rfl, ⟨by decide, by decide, by decide +kernel⟩, by decide⟩, lw_gm 1301 (by decide +kernel) rfl⟩
theorem lc_X7_47 : xlS RX7 47 yX1_put cX1_put 3 none 3 := ⟨⟨lw_gm 1306 (by decide +kernel) rfl, lw_gm 106 (by decide +kernel) rfl, lw_gm 527 (by decide +kernel) rfl, ⟨by decide, by decide, by decide +kernel⟩, by decide⟩, lw_gm 526 (by decide +kernel) rfl⟩
theorem lc_X7_55 : xlS RX7 55 yX1_bit cX1_bit 1 (some .int) 1 := ⟨⟨lw_gm 1319 (by decide +kernel) rfl, lw_gm 106 (by decide +kernel) rfl, lw_gm 515 (by decide +kernel) rfl, ⟨by decide, by decide, by decide +kernel⟩, by decide⟩, lw_gm 514 (by decide +kernel) rfl⟩
theorem lc_X7_62 : xlV RX7 62 yX7_follow cX7_follow 7 none 1 6 := ⟨⟨lw_gm 1315 (by decide +kernel) rfl, lw_gm 116 (by decide +kernel) rfl, lw_gm 1318 (by decide +kernel) rfl, ⟨by decide, by decide, by decide +kernel⟩, by decide⟩, lw_gm 1317 (by decide +kernel) rfl, lw_gm 37 (by decide +kernel) rfl, _, _, rfl⟩
theorem lc_X7_66 : xlS RX7 66 yX1_has cX1_has 2 (some .boolean) 2 := ⟨⟨lw_gm 1331 (by decide +kernel) rfl, lw_gm 106 (by decide +kernel) rfl, lw_gm 858 (by decide +kernel) rfl, ⟨by decide, by decide, by decide +kernel⟩, by decide⟩, lw_gm 857 (by decide +kernel) rfl⟩
theorem lc_X7_69 : xlS RX7 69 Lib.Math.min.name Lib.Math.min.code 2 (some .int) 2 := ⟨⟨lw_gm 1332 (by decide +kernel) rfl, lw_gm 107 (by decide +kernel) rfl, lw_gm 142 (by decide +kernel) rfl, ⟨by decide, by decide, by decide +kernel⟩, by decide⟩, lw_gm 141 (by decide +kernel) rfl⟩
theorem lc_X7_75 : xlS RX7 75 Lib.Math.max.name Lib.Math.max.code 2 (some .int) 2 := ⟨⟨lw_gm 1333 (by decide +kernel) rfl, lw_gm 107 (by decide +kernel) rfl, lw_gm 145 (by decide +kernel) rfl, ⟨by decide, by decide, by decide +kernel⟩, by decide⟩, lw_gm 144 (by decide +kernel) rfl⟩
def P_X7_isTime  (x0 : Int32)   (M : xM) : Int32 :=
  (P_X1_within x0 (0 : Int32) (9999 : Int32) M)
set_option maxRecDepth 100000 in
set_option maxHeartbeats 4000000 in
theorem w_X7_isTime {l : Launch} (x0 : Int32)     (M : xM)  : AW SC l RX7 cX7_isTime 1 (some .boolean) 1 ki (some (P_X7_isTime x0  M, M)) 0 [some (xi x0)] [] M := by
  unfold P_X7_isTime
  refine A_iload_n dX7_isTime_0 rfl ?_
  refine A_iconst (v := (0 : Int32)) dX7_isTime_1 oI_0 ?_
  refine A_sipush (v := (9999 : Int32)) dX7_isTime_2 oS_9999 ?_
  refine A_callSp (a_X1_within (S := SC) (l := l) _ _ _ _ ) lc_X7_26 rfl (by decide) (Nat.le_of_ble_eq_true rfl) rfl dX7_isTime_5 ?_
  exact A_zret' rfl (zP_X1_within _ _ _ _) dX7_isTime_8
theorem a_X7_isTime {l : Launch}  (x0 : Int32) (M : xM)  : AM SC l yX7_isTime cX7_isTime 1 (some .boolean) 1 ki [xi x0] M (some (P_X7_isTime  x0  M, M)) :=
  AM.of (L0 := [some (xi x0)]) (w_X7_isTime (l := l) x0  M ) (by decide +kernel) rfl (Nat.le_of_ble_eq_true rfl) ⟨rfl, trivial⟩
theorem zP_X7_isTime (x0 : Int32) (M : xM) : P_X7_isTime x0 M = 0 ∨ P_X7_isTime x0 M = 1 := by
  unfold P_X7_isTime
  repeat' split
  all_goals first | decide | with_reducible exact zP_X1_within _ _ _ _
def P_X7_isSpan  (x0 : Int32) (x1 : Int32)   (M : xM) : Int32 :=
  (if (P_X7_isTime x0 M) = 0 then
  (0 : Int32)
  else
  (if (P_X7_isTime x1 M) = 0 then
  (0 : Int32)
  else
  (if x1 ≤ x0 then
  (0 : Int32)
  else
  (1 : Int32))))
set_option maxRecDepth 100000 in
set_option maxHeartbeats 4000000 in
theorem w_X7_isSpan {l : Launch} (x0 : Int32) (x1 : Int32)     (M : xM)  : AW SC l RX7 cX7_isSpan 2 (some .boolean) 2 ki (some (P_X7_isSpan x0 x1  M, M)) 0 [some (xi x0), some (xi x1)] [] M := by
  unfold P_X7_isSpan
  refine A_iload_n dX7_isSpan_0 rfl ?_
  refine A_callSp (a_X7_isTime (l := l) _ _ ) lc_X7_32 rfl (by decide) (Nat.le_of_ble_eq_true rfl) rfl dX7_isSpan_1 ?_
  refine A_if_eq_p (tgt := 23) dX7_isSpan_4 (by decide) (fun _ => ?_) (fun _ => ?_)
  · refine A_iconst (v := (0 : Int32)) dX7_isSpan_23 oI_0 ?_
    exact A_zret' rfl (Or.inl rfl) dX7_isSpan_24
  · refine A_iload_n dX7_isSpan_7 rfl ?_
    refine A_callSp (a_X7_isTime (l := l) _ _ ) lc_X7_32 rfl (by decide) (Nat.le_of_ble_eq_true rfl) rfl dX7_isSpan_8 ?_
    refine A_if_eq_p (tgt := 23) dX7_isSpan_11 (by decide) (fun _ => ?_) (fun _ => ?_)
    · refine A_iconst (v := (0 : Int32)) dX7_isSpan_23 oI_0 ?_
      exact A_zret' rfl (Or.inl rfl) dX7_isSpan_24
    · refine A_iload_n dX7_isSpan_14 rfl ?_
      refine A_iload_n dX7_isSpan_15 rfl ?_
      refine A_icmp_ge_p (tgt := 23) dX7_isSpan_16 (by decide) (fun _ => ?_) (fun _ => ?_)
      · refine A_iconst (v := (0 : Int32)) dX7_isSpan_23 oI_0 ?_
        exact A_zret' rfl (Or.inl rfl) dX7_isSpan_24
      · refine A_iconst (v := (1 : Int32)) dX7_isSpan_19 oI_1 ?_
        refine A_goto (tgt := 24) dX7_isSpan_20 (by decide) ?_
        exact A_zret' rfl (Or.inr rfl) dX7_isSpan_24
theorem a_X7_isSpan {l : Launch}  (x0 : Int32) (x1 : Int32) (M : xM)  : AM SC l yX7_isSpan cX7_isSpan 2 (some .boolean) 2 ki [xi x0, xi x1] M (some (P_X7_isSpan  x0 x1  M, M)) :=
  AM.of (L0 := [some (xi x0), some (xi x1)]) (w_X7_isSpan (l := l) x0 x1  M ) (by decide +kernel) rfl (Nat.le_of_ble_eq_true rfl) ⟨rfl, rfl, trivial⟩
theorem zP_X7_isSpan (x0 : Int32) (x1 : Int32) (M : xM) : P_X7_isSpan x0 x1 M = 0 ∨ P_X7_isSpan x0 x1 M = 1 := by
  unfold P_X7_isSpan
  repeat' split
  all_goals first | decide | with_reducible exact zP_X7_isTime _ _
def P_X7_isPlace  (x0 : Int32)   (M : xM) : Int32 :=
  (P_X1_within x0 (0 : Int32) (9 : Int32) M)
set_option maxRecDepth 100000 in
set_option maxHeartbeats 4000000 in
theorem w_X7_isPlace {l : Launch} (x0 : Int32)     (M : xM)  : AW SC l RX7 cX7_isPlace 1 (some .boolean) 1 ki (some (P_X7_isPlace x0  M, M)) 0 [some (xi x0)] [] M := by
  unfold P_X7_isPlace
  refine A_iload_n dX7_isPlace_0 rfl ?_
  refine A_iconst (v := (0 : Int32)) dX7_isPlace_1 oI_0 ?_
  refine A_bipush (v := (9 : Int32)) dX7_isPlace_2 oB_9 ?_
  refine A_callSp (a_X1_within (S := SC) (l := l) _ _ _ _ ) lc_X7_26 rfl (by decide) (Nat.le_of_ble_eq_true rfl) rfl dX7_isPlace_4 ?_
  exact A_zret' rfl (zP_X1_within _ _ _ _) dX7_isPlace_7
theorem a_X7_isPlace {l : Launch}  (x0 : Int32) (M : xM)  : AM SC l yX7_isPlace cX7_isPlace 1 (some .boolean) 1 ki [xi x0] M (some (P_X7_isPlace  x0  M, M)) :=
  AM.of (L0 := [some (xi x0)]) (w_X7_isPlace (l := l) x0  M ) (by decide +kernel) rfl (Nat.le_of_ble_eq_true rfl) ⟨rfl, trivial⟩
theorem zP_X7_isPlace (x0 : Int32) (M : xM) : P_X7_isPlace x0 M = 0 ∨ P_X7_isPlace x0 M = 1 := by
  unfold P_X7_isPlace
  repeat' split
  all_goals first | decide | with_reducible exact zP_X1_within _ _ _ _
def P_X7_canBe_b32  (x0 : Int32) (x1 : Int32)   (M : xM) : Int32 :=
  (P_X1_within x1 (0 : Int32) (9999 : Int32) M)
set_option maxRecDepth 100000 in
set_option maxHeartbeats 4000000 in
theorem a_X7_canBe_b32 {l : Launch} (x0 : Int32) (x1 : Int32)     (M : xM)  : AW SC l RX7 cX7_canBe 2 (some .boolean) 2 ki (some (P_X7_canBe_b32 x0 x1  M, M)) 32 [none, some (xi x1)] [] M := by
  unfold P_X7_canBe_b32
  refine A_iload_n dX7_canBe_32 rfl ?_
  refine A_iconst (v := (0 : Int32)) dX7_canBe_33 oI_0 ?_
  refine A_sipush (v := (9999 : Int32)) dX7_canBe_34 oS_9999 ?_
  refine A_callSp (a_X1_within (S := SC) (l := l) _ _ _ _ ) lc_X7_26 rfl (by decide) (Nat.le_of_ble_eq_true rfl) rfl dX7_canBe_37 ?_
  exact A_zret' rfl (zP_X1_within _ _ _ _) dX7_canBe_40
def P_X7_canBe  (x0 : Int32) (x1 : Int32)   (M : xM) : Int32 :=
  (if x0 = (0 : Int32) then
  P_X7_canBe_b32 x0 x1  M
  else
  (if x0 = (1 : Int32) then
  P_X7_canBe_b32 x0 x1  M
  else
  (if x0 = (2 : Int32) then
  (1 : Int32)
  else
  (if x0 = (3 : Int32) then
  (P_X7_isPlace x1 M)
  else
  (0 : Int32)))))
set_option maxRecDepth 100000 in
set_option maxHeartbeats 4000000 in
theorem w_X7_canBe {l : Launch} (x0 : Int32) (x1 : Int32)     (M : xM)  : AW SC l RX7 cX7_canBe 2 (some .boolean) 2 ki (some (P_X7_canBe x0 x1  M, M)) 0 [some (xi x0), some (xi x1)] [] M := by
  unfold P_X7_canBe
  refine A_iload_n dX7_canBe_0 rfl ?_
  refine AW.ite_p (fun e => ?_) (fun e0 => ?_)
  · refine A_tableIn (off := 31) (tgt := 32) dX7_canBe_1 (by rw [e]; decide) (by rw [e]; decide) (by rw [e]; rfl) (by decide) ?_
    exact (a_X7_canBe_b32 (l := l) x0 x1   _ ).sub ⟨rfl, trivial⟩
  · refine AW.ite_p (fun e => ?_) (fun e1 => ?_)
    · refine A_tableIn (off := 31) (tgt := 32) dX7_canBe_1 (by rw [e]; decide) (by rw [e]; decide) (by rw [e]; rfl) (by decide) ?_
      exact (a_X7_canBe_b32 (l := l) x0 x1   _ ).sub ⟨rfl, trivial⟩
    · refine AW.ite_p (fun e => ?_) (fun e2 => ?_)
      · refine A_tableIn (off := 40) (tgt := 41) dX7_canBe_1 (by rw [e]; decide) (by rw [e]; decide) (by rw [e]; rfl) (by decide) ?_
        refine A_iconst (v := (1 : Int32)) dX7_canBe_41 oI_1 ?_
        exact A_zret' rfl (Or.inr rfl) dX7_canBe_42
      · refine AW.ite_p (fun e => ?_) (fun e3 => ?_)
        · refine A_tableIn (off := 42) (tgt := 43) dX7_canBe_1 (by rw [e]; decide) (by rw [e]; decide) (by rw [e]; rfl) (by decide) ?_
          refine A_iload_n dX7_canBe_43 rfl ?_
          refine A_callSp (a_X7_isPlace (l := l) _ _ ) lc_X7_36 rfl (by decide) (Nat.le_of_ble_eq_true rfl) rfl dX7_canBe_44 ?_
          exact A_zret' rfl (zP_X7_isPlace _ _) dX7_canBe_47
        · refine A_tableOut (tgt := 48) dX7_canBe_1 (by have z0 := xne (k := 0) (by decide) e0; have z1 := xne (k := 1) (by decide) e1; have z2 := xne (k := 2) (by decide) e2; have z3 := xne (k := 3) (by decide) e3; omega) (by decide) ?_
          refine A_iconst (v := (0 : Int32)) dX7_canBe_48 oI_0 ?_
          exact A_zret' rfl (Or.inl rfl) dX7_canBe_49
theorem a_X7_canBe {l : Launch}  (x0 : Int32) (x1 : Int32) (M : xM)  : AM SC l yX7_canBe cX7_canBe 2 (some .boolean) 2 ki [xi x0, xi x1] M (some (P_X7_canBe  x0 x1  M, M)) :=
  AM.of (L0 := [some (xi x0), some (xi x1)]) (w_X7_canBe (l := l) x0 x1  M ) (by decide +kernel) rfl (Nat.le_of_ble_eq_true rfl) ⟨rfl, rfl, trivial⟩
theorem zP_X7_canBe (x0 : Int32) (x1 : Int32) (M : xM) : P_X7_canBe x0 x1 M = 0 ∨ P_X7_canBe x0 x1 M = 1 := by
  unfold P_X7_canBe
  try unfold P_X7_canBe_b32
  repeat' split
  all_goals first | decide | with_reducible exact zP_X1_within _ _ _ _ | with_reducible exact zP_X7_isPlace _ _
def F_X7_add_b39  (x1 : Int32) (x2 : Int32) (x3 : Int32) (x4 : Int32)  (x5 : Int32) (x6 : Int32) (s0 : Int32) (M : xM) : Option (Int32 × xM) :=
  (if (20 : Int32) ≤ x5 then
  some ((-1 : Int32), M)
  else
  (if (P_X7_isTime x2 M) = 0 then
  some ((-1 : Int32), M)
  else
  (if x2 < s0 then
  some ((-1 : Int32), M)
  else
  (if (P_X7_canBe x3 x4 M) = 0 then
  some ((-1 : Int32), M)
  else
  (F_X1_put 53 120 x6 x2 M).bind fun q1 =>
  (F_X1_put 54 120 x6 x3 q1).bind fun q2 =>
  (F_X1_put 55 120 x6 x4 q2).bind fun q3 =>
  (F_X1_put 52 6 x1 (x5 + (1 : Int32)) q3).bind fun q4 =>
  some ((x5 + (1 : Int32)), q4)))))
set_option maxRecDepth 100000 in
set_option maxHeartbeats 4000000 in
theorem a_X7_add_b39 {l : Launch} (x1 : Int32) (x2 : Int32) (x3 : Int32) (x4 : Int32)    (x5 : Int32) (x6 : Int32) (s0 : Int32) (M : xM)  : AW SC l RX7 cX7_add 8 (some .int) 3 ki (F_X7_add_b39 x1 x2 x3 x4 x5 x6 s0 M) 39 [some (xr 10), some (xi x1), some (xi x2), some (xi x3), some (xi x4), some (xi x5), some (xi x6), none] [xi s0] M := by
  unfold F_X7_add_b39
  refine A_istore dX7_add_39 (Nat.le_of_ble_eq_true rfl) rfl ?_
  refine A_iload dX7_add_41 rfl ?_
  refine A_bipush (v := (20 : Int32)) dX7_add_43 oB_20 ?_
  refine A_icmp_ge (tgt := 70) dX7_add_45 (by decide) (fun _ => ?_) (fun _ => ?_)
  · refine A_iconst (v := (-1 : Int32)) dX7_add_70 oI_m1 ?_
    exact A_iret rfl dX7_add_71
  · refine A_iload_n dX7_add_48 rfl ?_
    refine A_callSp (a_X7_isTime (l := l) _ _ ) lc_X7_32 rfl (by decide) (Nat.le_of_ble_eq_true rfl) rfl dX7_add_49 ?_
    refine A_if_eq (tgt := 70) dX7_add_52 (by decide) (fun _ => ?_) (fun _ => ?_)
    · refine A_iconst (v := (-1 : Int32)) dX7_add_70 oI_m1 ?_
      exact A_iret rfl dX7_add_71
    · refine A_iload_n dX7_add_55 rfl ?_
      refine A_iload dX7_add_56 rfl ?_
      refine A_icmp_lt (tgt := 70) dX7_add_58 (by decide) (fun _ => ?_) (fun _ => ?_)
      · refine A_iconst (v := (-1 : Int32)) dX7_add_70 oI_m1 ?_
        exact A_iret rfl dX7_add_71
      · refine A_iload_n dX7_add_61 rfl ?_
        refine A_iload dX7_add_62 rfl ?_
        refine A_callSp (a_X7_canBe (l := l) _ _ _ ) lc_X7_43 rfl (by decide) (Nat.le_of_ble_eq_true rfl) rfl dX7_add_64 ?_
        refine A_if_ne (tgt := 72) dX7_add_67 (by decide) (fun _ => ?_) (fun _ => ?_)
        · refine A_iconst (v := (-1 : Int32)) dX7_add_70 oI_m1 ?_
          exact A_iret rfl dX7_add_71
        · refine A_aload_n dX7_add_72 rfl ?_
          refine A_getr lf_X7_17 rfl rfl dX7_add_73 ?_
          refine A_iload dX7_add_76 rfl ?_
          refine A_iload_n dX7_add_78 rfl ?_
          refine A_callSv (a_X1_put (S := SC) (l := l) _ _ _ _ _ rfl) lc_X7_47 rfl (by decide) (Nat.le_of_ble_eq_true rfl) rfl dX7_add_79 (fun q1 hq1 => ?_)
          refine A_aload_n dX7_add_82 rfl ?_
          refine A_getr lf_X7_20 rfl rfl dX7_add_83 ?_
          refine A_iload dX7_add_86 rfl ?_
          refine A_iload_n dX7_add_88 rfl ?_
          refine A_callSv (a_X1_put (S := SC) (l := l) _ _ _ _ _ rfl) lc_X7_47 rfl (by decide) (Nat.le_of_ble_eq_true rfl) rfl dX7_add_89 (fun q2 hq2 => ?_)
          refine A_aload_n dX7_add_92 rfl ?_
          refine A_getr lf_X7_23 rfl rfl dX7_add_93 ?_
          refine A_iload dX7_add_96 rfl ?_
          refine A_iload dX7_add_98 rfl ?_
          refine A_callSv (a_X1_put (S := SC) (l := l) _ _ _ _ _ rfl) lc_X7_47 rfl (by decide) (Nat.le_of_ble_eq_true rfl) rfl dX7_add_100 (fun q3 hq3 => ?_)
          refine A_aload_n dX7_add_103 rfl ?_
          refine A_getr lf_X7_11 rfl rfl dX7_add_104 ?_
          refine A_iload_n dX7_add_107 rfl ?_
          refine A_iload dX7_add_108 rfl ?_
          refine A_iconst (v := (1 : Int32)) dX7_add_110 oI_1 ?_
          refine A_iadd dX7_add_111 ?_
          refine A_callSv (a_X1_put (S := SC) (l := l) _ _ _ _ _ rfl) lc_X7_47 rfl (by decide) (Nat.le_of_ble_eq_true rfl) rfl dX7_add_112 (fun q4 hq4 => ?_)
          refine A_iload dX7_add_115 rfl ?_
          refine A_iconst (v := (1 : Int32)) dX7_add_117 oI_1 ?_
          refine A_iadd dX7_add_118 ?_
          exact A_iret rfl dX7_add_119
def F_X7_add  (x1 : Int32) (x2 : Int32) (x3 : Int32) (x4 : Int32)   (M : xM) : Option (Int32 × xM) :=
  (if (P_X1_at 52 6 x1 M) = 0 then
  F_X7_add_b39 x1 x2 x3 x4 (P_X1_at 52 6 x1 M) ((x1 * (20 : Int32)) + (P_X1_at 52 6 x1 M)) (0 : Int32) M
  else
  F_X7_add_b39 x1 x2 x3 x4 (P_X1_at 52 6 x1 M) ((x1 * (20 : Int32)) + (P_X1_at 52 6 x1 M)) (P_X1_at 53 120 (((x1 * (20 : Int32)) + (P_X1_at 52 6 x1 M)) - (1 : Int32)) M) M)
set_option maxRecDepth 100000 in
set_option maxHeartbeats 4000000 in
theorem w_X7_add {l : Launch} (x1 : Int32) (x2 : Int32) (x3 : Int32) (x4 : Int32)     (M : xM)  : AW SC l RX7 cX7_add 8 (some .int) 3 ki (F_X7_add x1 x2 x3 x4  M) 0 [some (xr 10), some (xi x1), some (xi x2), some (xi x3), some (xi x4), none, none, none] [] M := by
  unfold F_X7_add
  refine A_aload_n dX7_add_0 rfl ?_
  refine A_getr lf_X7_11 rfl rfl dX7_add_1 ?_
  refine A_iload_n dX7_add_4 rfl ?_
  refine A_callSp (a_X1_at (S := SC) (l := l) _ _ _ _ rfl) lc_X7_39 rfl (by decide) (Nat.le_of_ble_eq_true rfl) rfl dX7_add_5 ?_
  refine A_istore dX7_add_8 (Nat.le_of_ble_eq_true rfl) rfl ?_
  refine A_iload_n dX7_add_10 rfl ?_
  refine A_bipush (v := (20 : Int32)) dX7_add_11 oB_20 ?_
  refine A_imul dX7_add_13 ?_
  refine A_iload dX7_add_14 rfl ?_
  refine A_iadd dX7_add_16 ?_
  refine A_istore dX7_add_17 (Nat.le_of_ble_eq_true rfl) rfl ?_
  refine A_iload dX7_add_19 rfl ?_
  refine A_if_ne (tgt := 28) dX7_add_21 (by decide) (fun _ => ?_) (fun _ => ?_)
  · refine A_iconst (v := (0 : Int32)) dX7_add_24 oI_0 ?_
    refine A_goto (tgt := 39) dX7_add_25 (by decide) ?_
    exact (a_X7_add_b39 (l := l) x1 x2 x3 x4  _ _ _ _ ).sub ⟨rfl, rfl, rfl, rfl, rfl, rfl, rfl, trivial⟩
  · refine A_aload_n dX7_add_28 rfl ?_
    refine A_getr lf_X7_17 rfl rfl dX7_add_29 ?_
    refine A_iload dX7_add_32 rfl ?_
    refine A_iconst (v := (1 : Int32)) dX7_add_34 oI_1 ?_
    refine A_isub dX7_add_35 ?_
    refine A_callSp (a_X1_at (S := SC) (l := l) _ _ _ _ rfl) lc_X7_39 rfl (by decide) (Nat.le_of_ble_eq_true rfl) rfl dX7_add_36 ?_
    exact (a_X7_add_b39 (l := l) x1 x2 x3 x4  _ _ _ _ ).sub ⟨rfl, rfl, rfl, rfl, rfl, rfl, rfl, trivial⟩
theorem a_X7_add {l : Launch}  (x1 : Int32) (x2 : Int32) (x3 : Int32) (x4 : Int32) (M : xM)  : AM SC l yX7_add cX7_add 8 (some .int) 3 ki [xr 10, xi x1, xi x2, xi x3, xi x4] M (F_X7_add  x1 x2 x3 x4  M) :=
  AM.of (L0 := [some (xr 10), some (xi x1), some (xi x2), some (xi x3), some (xi x4), none, none, none]) (w_X7_add (l := l) x1 x2 x3 x4  M ) (by decide +kernel) rfl (Nat.le_of_ble_eq_true rfl) ⟨rfl, rfl, rfl, rfl, rfl, trivial⟩
def F_X7_follow_b177 (fu : Nat)  (x1 : Int32) (k20 : Int32 → Int32 → Int32 → xM → Option (xM)) (x2 : Int32) (x3 : Int32) (x4 : Int32) (s0 : Int32) (s1 : Int32) (M : xM) : Option (xM) :=
  k20 x2 x3 (x4 + (1 : Int32)) (xset M 10 5 (s1 ||| s0))
set_option maxRecDepth 100000 in
set_option maxHeartbeats 4000000 in
theorem a_X7_follow_b177 {l : Launch} (fu : Nat) (x1 : Int32)  {k20 : Int32 → Int32 → Int32 → xM → Option (xM)} (hk20 : ∀ (b0 : Int32) (b1 : Int32) (b2 : Int32) (M : xM), AW SC l RX7 cX7_follow 7 none 1 kv (k20 b0 b1 b2 M) 20 [some (xr 10), some (xi x1), some (xi b0), some (xi b1), some (xi b2), none, none] [] M) (x2 : Int32) (x3 : Int32) (x4 : Int32) (s0 : Int32) (s1 : Int32) (M : xM)  : AW SC l RX7 cX7_follow 7 none 1 kv (F_X7_follow_b177 fu x1 k20 x2 x3 x4 s0 s1 M) 177 [some (xr 10), some (xi x1), some (xi x2), some (xi x3), some (xi x4), none, none] [xi s0, xi s1, xr 10] M := by
  unfold F_X7_follow_b177
  refine A_ior dX7_follow_177 ?_
  refine A_puti lf_X7_59 rfl rfl dX7_follow_178 ?_
  refine A_iinc dX7_follow_181 rfl oI_1 (Nat.le_of_ble_eq_true rfl) rfl ?_
  refine A_goto (tgt := 20) dX7_follow_184 (by decide) ?_
  exact (hk20 _ _ _ _).sub ⟨rfl, rfl, rfl, rfl, rfl, trivial⟩
def F_X7_follow_b157 (fu : Nat)  (x1 : Int32) (k20 : Int32 → Int32 → Int32 → xM → Option (xM)) (x2 : Int32) (x3 : Int32) (x4 : Int32) (M : xM) : Option (xM) :=
  (if x2 = 0 then
  F_X7_follow_b177 fu x1 k20 x2 x3 x4 (P_X1_bit (x4 + (1 : Int32)) M) (M 10 5) M
  else
  F_X7_follow_b177 fu x1 k20 x2 x3 x4 (0 : Int32) (M 10 5) M)
set_option maxRecDepth 100000 in
set_option maxHeartbeats 4000000 in
theorem a_X7_follow_b157 {l : Launch} (fu : Nat) (x1 : Int32)  {k20 : Int32 → Int32 → Int32 → xM → Option (xM)} (hk20 : ∀ (b0 : Int32) (b1 : Int32) (b2 : Int32) (M : xM), AW SC l RX7 cX7_follow 7 none 1 kv (k20 b0 b1 b2 M) 20 [some (xr 10), some (xi x1), some (xi b0), some (xi b1), some (xi b2), none, none] [] M) (x2 : Int32) (x3 : Int32) (x4 : Int32) (M : xM)  : AW SC l RX7 cX7_follow 7 none 1 kv (F_X7_follow_b157 fu x1 k20 x2 x3 x4 M) 157 [some (xr 10), some (xi x1), some (xi x2), some (xi x3), some (xi x4), none, none] [] M := by
  unfold F_X7_follow_b157
  refine A_aload_n dX7_follow_157 rfl ?_
  refine A_dup dX7_follow_158 rfl ?_
  refine A_geti lf_X7_59 rfl rfl dX7_follow_159 ?_
  refine A_iload_n dX7_follow_162 rfl ?_
  refine A_if_eq (tgt := 170) dX7_follow_163 (by decide) (fun _ => ?_) (fun _ => ?_)
  · refine A_iload dX7_follow_170 rfl ?_
    refine A_iconst (v := (1 : Int32)) dX7_follow_172 oI_1 ?_
    refine A_iadd dX7_follow_173 ?_
    refine A_callSp (a_X1_bit (S := SC) (l := l) _ _ ) lc_X7_55 rfl (by decide) (Nat.le_of_ble_eq_true rfl) rfl dX7_follow_174 ?_
    exact (a_X7_follow_b177 (l := l) fu x1 hk20 _ _ _ _ _ _ ).sub ⟨rfl, rfl, rfl, rfl, rfl, trivial⟩
  · refine A_iconst (v := (0 : Int32)) dX7_follow_166 oI_0 ?_
    refine A_goto (tgt := 177) dX7_follow_167 (by decide) ?_
    exact (a_X7_follow_b177 (l := l) fu x1 hk20 _ _ _ _ _ _ ).sub ⟨rfl, rfl, rfl, rfl, rfl, trivial⟩
def F_X7_follow_b88 (fu : Nat)  (x1 : Int32) (k20 : Int32 → Int32 → Int32 → xM → Option (xM)) (x4 : Int32) (x6 : Int32) (s0 : Int32) (s1 : Int32) (M : xM) : Option (xM) :=
  F_X7_follow_b157 fu x1 k20 (1 : Int32) x6 x4 (xset M 10 4 (s1 ||| s0))
set_option maxRecDepth 100000 in
set_option maxHeartbeats 4000000 in
theorem a_X7_follow_b88 {l : Launch} (fu : Nat) (x1 : Int32)  {k20 : Int32 → Int32 → Int32 → xM → Option (xM)} (hk20 : ∀ (b0 : Int32) (b1 : Int32) (b2 : Int32) (M : xM), AW SC l RX7 cX7_follow 7 none 1 kv (k20 b0 b1 b2 M) 20 [some (xr 10), some (xi x1), some (xi b0), some (xi b1), some (xi b2), none, none] [] M) (x4 : Int32) (x6 : Int32) (s0 : Int32) (s1 : Int32) (M : xM)  : AW SC l RX7 cX7_follow 7 none 1 kv (F_X7_follow_b88 fu x1 k20 x4 x6 s0 s1 M) 88 [some (xr 10), some (xi x1), none, none, some (xi x4), none, some (xi x6)] [xi s0, xi s1, xr 10] M := by
  unfold F_X7_follow_b88
  refine A_ior dX7_follow_88 ?_
  refine A_puti lf_X7_51 rfl rfl dX7_follow_89 ?_
  refine A_iconst (v := (1 : Int32)) dX7_follow_92 oI_1 ?_
  refine A_istore_n dX7_follow_93 (Nat.le_of_ble_eq_true rfl) rfl ?_
  refine A_iload dX7_follow_94 rfl ?_
  refine A_istore_n dX7_follow_96 (Nat.le_of_ble_eq_true rfl) rfl ?_
  refine A_goto (tgt := 157) dX7_follow_97 (by decide) ?_
  exact (a_X7_follow_b157 (l := l) fu x1 hk20 _ _ _ _ ).sub ⟨rfl, rfl, rfl, rfl, rfl, trivial⟩
def F_X7_follow_b116 (fu : Nat)  (x1 : Int32) (k20 : Int32 → Int32 → Int32 → xM → Option (xM)) (x3 : Int32) (x4 : Int32) (M : xM) : Option (xM) :=
  F_X7_follow_b157 fu x1 k20 (0 : Int32) x3 x4 (xset (xset M 10 4 ((M 10 4) ||| (P_X1_bit x4 M))) 10 5 (((xset M 10 4 ((M 10 4) ||| (P_X1_bit x4 M))) 10 5) ||| (P_X1_bit x4 (xset M 10 4 ((M 10 4) ||| (P_X1_bit x4 M))))))
set_option maxRecDepth 100000 in
set_option maxHeartbeats 4000000 in
theorem a_X7_follow_b116 {l : Launch} (fu : Nat) (x1 : Int32)  {k20 : Int32 → Int32 → Int32 → xM → Option (xM)} (hk20 : ∀ (b0 : Int32) (b1 : Int32) (b2 : Int32) (M : xM), AW SC l RX7 cX7_follow 7 none 1 kv (k20 b0 b1 b2 M) 20 [some (xr 10), some (xi x1), some (xi b0), some (xi b1), some (xi b2), none, none] [] M) (x3 : Int32) (x4 : Int32) (M : xM)  : AW SC l RX7 cX7_follow 7 none 1 kv (F_X7_follow_b116 fu x1 k20 x3 x4 M) 116 [some (xr 10), some (xi x1), none, some (xi x3), some (xi x4), none, none] [] M := by
  unfold F_X7_follow_b116
  refine A_aload_n dX7_follow_116 rfl ?_
  refine A_dup dX7_follow_117 rfl ?_
  refine A_geti lf_X7_51 rfl rfl dX7_follow_118 ?_
  refine A_iload dX7_follow_121 rfl ?_
  refine A_callSp (a_X1_bit (S := SC) (l := l) _ _ ) lc_X7_55 rfl (by decide) (Nat.le_of_ble_eq_true rfl) rfl dX7_follow_123 ?_
  refine A_ior dX7_follow_126 ?_
  refine A_puti lf_X7_51 rfl rfl dX7_follow_127 ?_
  refine A_aload_n dX7_follow_130 rfl ?_
  refine A_dup dX7_follow_131 rfl ?_
  refine A_geti lf_X7_59 rfl rfl dX7_follow_132 ?_
  refine A_iload dX7_follow_135 rfl ?_
  refine A_callSp (a_X1_bit (S := SC) (l := l) _ _ ) lc_X7_55 rfl (by decide) (Nat.le_of_ble_eq_true rfl) rfl dX7_follow_137 ?_
  refine A_ior dX7_follow_140 ?_
  refine A_puti lf_X7_59 rfl rfl dX7_follow_141 ?_
  refine A_iconst (v := (0 : Int32)) dX7_follow_144 oI_0 ?_
  refine A_istore_n dX7_follow_145 (Nat.le_of_ble_eq_true rfl) rfl ?_
  refine A_goto (tgt := 157) dX7_follow_146 (by decide) ?_
  exact (a_X7_follow_b157 (l := l) fu x1 hk20 _ _ _ _ ).sub ⟨rfl, rfl, rfl, rfl, rfl, trivial⟩
def F_X7_follow_b149 (fu : Nat)  (x1 : Int32) (k20 : Int32 → Int32 → Int32 → xM → Option (xM)) (x2 : Int32) (x3 : Int32) (x4 : Int32) (x5 : Int32) (M : xM) : Option (xM) :=
  (if x5 = (2 : Int32) then
  F_X7_follow_b157 fu x1 k20 (0 : Int32) x3 x4 M
  else
  F_X7_follow_b157 fu x1 k20 x2 x3 x4 M)
set_option maxRecDepth 100000 in
set_option maxHeartbeats 4000000 in
theorem a_X7_follow_b149 {l : Launch} (fu : Nat) (x1 : Int32)  {k20 : Int32 → Int32 → Int32 → xM → Option (xM)} (hk20 : ∀ (b0 : Int32) (b1 : Int32) (b2 : Int32) (M : xM), AW SC l RX7 cX7_follow 7 none 1 kv (k20 b0 b1 b2 M) 20 [some (xr 10), some (xi x1), some (xi b0), some (xi b1), some (xi b2), none, none] [] M) (x2 : Int32) (x3 : Int32) (x4 : Int32) (x5 : Int32) (M : xM)  : AW SC l RX7 cX7_follow 7 none 1 kv (F_X7_follow_b149 fu x1 k20 x2 x3 x4 x5 M) 149 [some (xr 10), some (xi x1), some (xi x2), some (xi x3), some (xi x4), some (xi x5), none] [] M := by
  unfold F_X7_follow_b149
  refine A_iload dX7_follow_149 rfl ?_
  refine A_iconst (v := (2 : Int32)) dX7_follow_151 oI_2 ?_
  refine A_icmp_ne (tgt := 157) dX7_follow_152 (by decide) (fun _ => ?_) (fun _ => ?_)
  · refine A_iconst (v := (0 : Int32)) dX7_follow_155 oI_0 ?_
    refine A_istore_n dX7_follow_156 (Nat.le_of_ble_eq_true rfl) rfl ?_
    exact (a_X7_follow_b157 (l := l) fu x1 hk20 _ _ _ _ ).sub ⟨rfl, rfl, rfl, rfl, rfl, trivial⟩
  · exact (a_X7_follow_b157 (l := l) fu x1 hk20 _ _ _ _ ).sub ⟨rfl, rfl, rfl, rfl, rfl, trivial⟩
def F_X7_follow_b20 (fu : Nat)  (x1 : Int32)  : Nat → Int32 → Int32 → Int32 → xM → Option (xM)
  | 0, _, _, _, _ => none
  | n + 1, x2, x3, x4, M =>
    (if (P_X1_at 52 6 x1 M) ≤ x4 then
    some M
    else
    (if (P_X1_at 54 120 ((x1 * (20 : Int32)) + x4) M) = 0 then
    (if x2 = 0 then
    F_X7_follow_b88 fu x1 (F_X7_follow_b20 fu x1 n) x4 (P_X1_at 55 120 ((x1 * (20 : Int32)) + x4) M) (0 : Int32) (M 10 4) M
    else
    F_X7_follow_b88 fu x1 (F_X7_follow_b20 fu x1 n) x4 (P_X1_at 55 120 ((x1 * (20 : Int32)) + x4) M) (P_X1_bit x4 M) (M 10 4) M)
    else
    (if (P_X1_at 54 120 ((x1 * (20 : Int32)) + x4) M) = (1 : Int32) then
    (if x2 = 0 then
    F_X7_follow_b116 fu x1 (F_X7_follow_b20 fu x1 n) x3 x4 M
    else
    (if (P_X1_at 55 120 ((x1 * (20 : Int32)) + x4) M) = x3 then
    F_X7_follow_b149 fu x1 (F_X7_follow_b20 fu x1 n) x2 x3 x4 (P_X1_at 54 120 ((x1 * (20 : Int32)) + x4) M) M
    else
    F_X7_follow_b116 fu x1 (F_X7_follow_b20 fu x1 n) x3 x4 M))
    else
    F_X7_follow_b149 fu x1 (F_X7_follow_b20 fu x1 n) x2 x3 x4 (P_X1_at 54 120 ((x1 * (20 : Int32)) + x4) M) M)))
set_option maxRecDepth 100000 in
set_option maxHeartbeats 4000000 in
theorem a_X7_follow_b20 {l : Launch} (fu : Nat) (x1 : Int32)    : ∀ (n : Nat) (x2 : Int32) (x3 : Int32) (x4 : Int32) (M : xM), AW SC l RX7 cX7_follow 7 none 1 kv (F_X7_follow_b20 fu x1 n x2 x3 x4 M) 20 [some (xr 10), some (xi x1), some (xi x2), some (xi x3), some (xi x4), none, none] [] M := by
  intro n
  induction n with
  | zero =>
    intro x2 x3 x4 M
    exact AW.none
  | succ n ih =>
    intro x2 x3 x4 M
    rw [F_X7_follow_b20]
    refine A_iload dX7_follow_20 rfl ?_
    refine A_aload_n dX7_follow_22 rfl ?_
    refine A_getr lf_X7_11 rfl rfl dX7_follow_23 ?_
    refine A_iload_n dX7_follow_26 rfl ?_
    refine A_callSp (a_X1_at (S := SC) (l := l) _ _ _ _ rfl) lc_X7_39 rfl (by decide) (Nat.le_of_ble_eq_true rfl) rfl dX7_follow_27 ?_
    refine A_icmp_ge (tgt := 187) dX7_follow_30 (by decide) (fun _ => ?_) (fun _ => ?_)
    · exact A_vret rfl dX7_follow_187
    · refine A_aload_n dX7_follow_33 rfl ?_
      refine A_getr lf_X7_20 rfl rfl dX7_follow_34 ?_
      refine A_iload_n dX7_follow_37 rfl ?_
      refine A_bipush (v := (20 : Int32)) dX7_follow_38 oB_20 ?_
      refine A_imul dX7_follow_40 ?_
      refine A_iload dX7_follow_41 rfl ?_
      refine A_iadd dX7_follow_43 ?_
      refine A_callSp (a_X1_at (S := SC) (l := l) _ _ _ _ rfl) lc_X7_39 rfl (by decide) (Nat.le_of_ble_eq_true rfl) rfl dX7_follow_44 ?_
      refine A_istore dX7_follow_47 (Nat.le_of_ble_eq_true rfl) rfl ?_
      refine A_aload_n dX7_follow_49 rfl ?_
      refine A_getr lf_X7_23 rfl rfl dX7_follow_50 ?_
      refine A_iload_n dX7_follow_53 rfl ?_
      refine A_bipush (v := (20 : Int32)) dX7_follow_54 oB_20 ?_
      refine A_imul dX7_follow_56 ?_
      refine A_iload dX7_follow_57 rfl ?_
      refine A_iadd dX7_follow_59 ?_
      refine A_callSp (a_X1_at (S := SC) (l := l) _ _ _ _ rfl) lc_X7_39 rfl (by decide) (Nat.le_of_ble_eq_true rfl) rfl dX7_follow_60 ?_
      refine A_istore dX7_follow_63 (Nat.le_of_ble_eq_true rfl) rfl ?_
      refine A_iload dX7_follow_65 rfl ?_
      refine A_if_ne (tgt := 100) dX7_follow_67 (by decide) (fun _ => ?_) (fun _ => ?_)
      · refine A_aload_n dX7_follow_70 rfl ?_
        refine A_dup dX7_follow_71 rfl ?_
        refine A_geti lf_X7_51 rfl rfl dX7_follow_72 ?_
        refine A_iload_n dX7_follow_75 rfl ?_
        refine A_if_eq (tgt := 87) dX7_follow_76 (by decide) (fun _ => ?_) (fun _ => ?_)
        · refine A_iconst (v := (0 : Int32)) dX7_follow_87 oI_0 ?_
          exact (a_X7_follow_b88 (l := l) fu x1 ih _ _ _ _ _ ).sub ⟨rfl, rfl, rfl, rfl, trivial⟩
        · refine A_iload dX7_follow_79 rfl ?_
          refine A_callSp (a_X1_bit (S := SC) (l := l) _ _ ) lc_X7_55 rfl (by decide) (Nat.le_of_ble_eq_true rfl) rfl dX7_follow_81 ?_
          refine A_goto (tgt := 88) dX7_follow_84 (by decide) ?_
          exact (a_X7_follow_b88 (l := l) fu x1 ih _ _ _ _ _ ).sub ⟨rfl, rfl, rfl, rfl, trivial⟩
      · refine A_iload dX7_follow_100 rfl ?_
        refine A_iconst (v := (1 : Int32)) dX7_follow_102 oI_1 ?_
        refine A_icmp_ne (tgt := 149) dX7_follow_103 (by decide) (fun _ => ?_) (fun _ => ?_)
        · refine A_iload_n dX7_follow_106 rfl ?_
          refine A_if_eq (tgt := 116) dX7_follow_107 (by decide) (fun _ => ?_) (fun _ => ?_)
          · exact (a_X7_follow_b116 (l := l) fu x1 ih _ _ _ ).sub ⟨rfl, rfl, rfl, rfl, trivial⟩
          · refine A_iload dX7_follow_110 rfl ?_
            refine A_iload_n dX7_follow_112 rfl ?_
            refine A_icmp_eq (tgt := 149) dX7_follow_113 (by decide) (fun _ => ?_) (fun _ => ?_)
            · exact (a_X7_follow_b149 (l := l) fu x1 ih _ _ _ _ _ ).sub ⟨rfl, rfl, rfl, rfl, rfl, rfl, trivial⟩
            · exact (a_X7_follow_b116 (l := l) fu x1 ih _ _ _ ).sub ⟨rfl, rfl, rfl, rfl, trivial⟩
        · exact (a_X7_follow_b149 (l := l) fu x1 ih _ _ _ _ _ ).sub ⟨rfl, rfl, rfl, rfl, rfl, rfl, trivial⟩
def F_X7_follow (fu : Nat)  (x1 : Int32)   (M : xM) : Option (xM) :=
  F_X7_follow_b20 fu x1 fu (0 : Int32) (0 : Int32) (0 : Int32) (xset (xset M 10 4 (0 : Int32)) 10 5 (P_X1_bit (0 : Int32) (xset M 10 4 (0 : Int32))))
set_option maxRecDepth 100000 in
set_option maxHeartbeats 4000000 in
theorem w_X7_follow {l : Launch} (fu : Nat) (x1 : Int32)     (M : xM)  : AW SC l RX7 cX7_follow 7 none 1 kv (F_X7_follow fu x1  M) 0 [some (xr 10), some (xi x1), none, none, none, none, none] [] M := by
  unfold F_X7_follow
  refine A_iconst (v := (0 : Int32)) dX7_follow_0 oI_0 ?_
  refine A_istore_n dX7_follow_1 (Nat.le_of_ble_eq_true rfl) rfl ?_
  refine A_iconst (v := (0 : Int32)) dX7_follow_2 oI_0 ?_
  refine A_istore_n dX7_follow_3 (Nat.le_of_ble_eq_true rfl) rfl ?_
  refine A_aload_n dX7_follow_4 rfl ?_
  refine A_iconst (v := (0 : Int32)) dX7_follow_5 oI_0 ?_
  refine A_puti lf_X7_51 rfl rfl dX7_follow_6 ?_
  refine A_aload_n dX7_follow_9 rfl ?_
  refine A_iconst (v := (0 : Int32)) dX7_follow_10 oI_0 ?_
  refine A_callSp (a_X1_bit (S := SC) (l := l) _ _ ) lc_X7_55 rfl (by decide) (Nat.le_of_ble_eq_true rfl) rfl dX7_follow_11 ?_
  refine A_puti lf_X7_59 rfl rfl dX7_follow_14 ?_
  refine A_iconst (v := (0 : Int32)) dX7_follow_17 oI_0 ?_
  refine A_istore dX7_follow_18 (Nat.le_of_ble_eq_true rfl) rfl ?_
  exact (a_X7_follow_b20 (l := l) fu x1  fu _ _ _ _).sub ⟨rfl, rfl, rfl, rfl, rfl, trivial⟩
theorem a_X7_follow {l : Launch} (fu : Nat)  (x1 : Int32) (M : xM)  : AM SC l yX7_follow cX7_follow 7 none 1 kv [xr 10, xi x1] M (F_X7_follow fu x1  M) :=
  AM.of (L0 := [some (xr 10), some (xi x1), none, none, none, none, none]) (w_X7_follow (l := l) fu x1  M ) (by decide +kernel) rfl (Nat.le_of_ble_eq_true rfl) ⟨rfl, rfl, trivial⟩
def F_X7_badEvents (fu : Nat)  (x1 : Int32)   (M : xM) : Option (Int32 × xM) :=
  (F_X7_follow fu x1 M).bind fun q1 =>
  some ((q1 10 4), q1)
set_option maxRecDepth 100000 in
set_option maxHeartbeats 4000000 in
theorem w_X7_badEvents {l : Launch} (fu : Nat) (x1 : Int32)     (M : xM)  : AW SC l RX7 cX7_badEvents 2 (some .int) 2 ki (F_X7_badEvents fu x1  M) 0 [some (xr 10), some (xi x1)] [] M := by
  unfold F_X7_badEvents
  refine A_aload_n dX7_badEvents_0 rfl ?_
  refine A_iload_n dX7_badEvents_1 rfl ?_
  refine A_callVv (a_X7_follow (l := l) fu _ _ ) lc_X7_62 rfl rfl (by decide) (Nat.le_of_ble_eq_true rfl) rfl dX7_badEvents_2 (fun q1 hq1 => ?_)
  refine A_aload_n dX7_badEvents_5 rfl ?_
  refine A_geti lf_X7_51 rfl rfl dX7_badEvents_6 ?_
  exact A_iret rfl dX7_badEvents_9
theorem a_X7_badEvents {l : Launch} (fu : Nat)  (x1 : Int32) (M : xM)  : AM SC l yX7_badEvents cX7_badEvents 2 (some .int) 2 ki [xr 10, xi x1] M (F_X7_badEvents fu x1  M) :=
  AM.of (L0 := [some (xr 10), some (xi x1)]) (w_X7_badEvents (l := l) fu x1  M ) (by decide +kernel) rfl (Nat.le_of_ble_eq_true rfl) ⟨rfl, rfl, trivial⟩
def F_X7_openTime_b143 (fu : Nat)  (x1 : Int32) (x2 : Int32) (x3 : Int32) (x4 : Int32) (k27 : Int32 → Int32 → Int32 → Int32 → Int32 → xM → Option (Int32 × xM)) (x5 : Int32) (x6 : Int32) (x7 : Int32) (x8 : Int32) (x9 : Int32) (M : xM) : Option (Int32 × xM) :=
  k27 x5 x6 x7 x8 (x9 + (1 : Int32)) M
set_option maxRecDepth 100000 in
set_option maxHeartbeats 4000000 in
theorem a_X7_openTime_b143 {l : Launch} (fu : Nat) (x1 : Int32) (x2 : Int32) (x3 : Int32) (x4 : Int32)  {k27 : Int32 → Int32 → Int32 → Int32 → Int32 → xM → Option (Int32 × xM)} (hk27 : ∀ (b0 : Int32) (b1 : Int32) (b2 : Int32) (b3 : Int32) (b4 : Int32) (M : xM), AW SC l RX7 cX7_openTime 12 (some .int) 2 ki (k27 b0 b1 b2 b3 b4 M) 27 [some (xr 10), some (xi x1), some (xi x2), some (xi x3), some (xi x4), some (xi b0), some (xi b1), some (xi b2), some (xi b3), some (xi b4), none, none] [] M) (x5 : Int32) (x6 : Int32) (x7 : Int32) (x8 : Int32) (x9 : Int32) (M : xM)  : AW SC l RX7 cX7_openTime 12 (some .int) 2 ki (F_X7_openTime_b143 fu x1 x2 x3 x4 k27 x5 x6 x7 x8 x9 M) 143 [some (xr 10), some (xi x1), some (xi x2), some (xi x3), some (xi x4), some (xi x5), some (xi x6), some (xi x7), some (xi x8), some (xi x9), none, none] [] M := by
  unfold F_X7_openTime_b143
  refine A_iinc dX7_openTime_143 rfl oI_1 (Nat.le_of_ble_eq_true rfl) rfl ?_
  refine A_goto (tgt := 27) dX7_openTime_146 (by decide) ?_
  exact (hk27 _ _ _ _ _ _).sub ⟨rfl, rfl, rfl, rfl, rfl, rfl, rfl, rfl, rfl, rfl, trivial⟩
def F_X7_openTime_b108 (fu : Nat)  (x1 : Int32) (x2 : Int32) (x3 : Int32) (x4 : Int32) (k27 : Int32 → Int32 → Int32 → Int32 → Int32 → xM → Option (Int32 × xM)) (x5 : Int32) (x7 : Int32) (x8 : Int32) (x9 : Int32) (x10 : Int32) (x11 : Int32) (M : xM) : Option (Int32 × xM) :=
  (if x5 ≤ x9 then
  F_X7_openTime_b143 fu x1 x2 x3 x4 k27 x5 x11 x7 x8 x9 M
  else
  (if (P_X1_at 54 120 x10 M) = (3 : Int32) then
  F_X7_openTime_b143 fu x1 x2 x3 x4 k27 x5 x11 (P_X1_at 55 120 x10 M) x8 x9 M
  else
  F_X7_openTime_b143 fu x1 x2 x3 x4 k27 x5 x11 x7 x8 x9 M))
set_option maxRecDepth 100000 in
set_option maxHeartbeats 4000000 in
theorem a_X7_openTime_b108 {l : Launch} (fu : Nat) (x1 : Int32) (x2 : Int32) (x3 : Int32) (x4 : Int32)  {k27 : Int32 → Int32 → Int32 → Int32 → Int32 → xM → Option (Int32 × xM)} (hk27 : ∀ (b0 : Int32) (b1 : Int32) (b2 : Int32) (b3 : Int32) (b4 : Int32) (M : xM), AW SC l RX7 cX7_openTime 12 (some .int) 2 ki (k27 b0 b1 b2 b3 b4 M) 27 [some (xr 10), some (xi x1), some (xi x2), some (xi x3), some (xi x4), some (xi b0), some (xi b1), some (xi b2), some (xi b3), some (xi b4), none, none] [] M) (x5 : Int32) (x7 : Int32) (x8 : Int32) (x9 : Int32) (x10 : Int32) (x11 : Int32) (M : xM)  : AW SC l RX7 cX7_openTime 12 (some .int) 2 ki (F_X7_openTime_b108 fu x1 x2 x3 x4 k27 x5 x7 x8 x9 x10 x11 M) 108 [some (xr 10), some (xi x1), some (xi x2), some (xi x3), some (xi x4), some (xi x5), none, some (xi x7), some (xi x8), some (xi x9), some (xi x10), some (xi x11)] [] M := by
  unfold F_X7_openTime_b108
  refine A_iload dX7_openTime_108 rfl ?_
  refine A_istore dX7_openTime_110 (Nat.le_of_ble_eq_true rfl) rfl ?_
  refine A_iload dX7_openTime_112 rfl ?_
  refine A_iload dX7_openTime_114 rfl ?_
  refine A_icmp_ge (tgt := 143) dX7_openTime_116 (by decide) (fun _ => ?_) (fun _ => ?_)
  · exact (a_X7_openTime_b143 (l := l) fu x1 x2 x3 x4 hk27 _ _ _ _ _ _ ).sub ⟨rfl, rfl, rfl, rfl, rfl, rfl, rfl, rfl, rfl, rfl, trivial⟩
  · refine A_aload_n dX7_openTime_119 rfl ?_
    refine A_getr lf_X7_20 rfl rfl dX7_openTime_120 ?_
    refine A_iload dX7_openTime_123 rfl ?_
    refine A_callSp (a_X1_at (S := SC) (l := l) _ _ _ _ rfl) lc_X7_39 rfl (by decide) (Nat.le_of_ble_eq_true rfl) rfl dX7_openTime_125 ?_
    refine A_iconst (v := (3 : Int32)) dX7_openTime_128 oI_3 ?_
    refine A_icmp_ne (tgt := 143) dX7_openTime_129 (by decide) (fun _ => ?_) (fun _ => ?_)
    · refine A_aload_n dX7_openTime_132 rfl ?_
      refine A_getr lf_X7_23 rfl rfl dX7_openTime_133 ?_
      refine A_iload dX7_openTime_136 rfl ?_
      refine A_callSp (a_X1_at (S := SC) (l := l) _ _ _ _ rfl) lc_X7_39 rfl (by decide) (Nat.le_of_ble_eq_true rfl) rfl dX7_openTime_138 ?_
      refine A_istore dX7_openTime_141 (Nat.le_of_ble_eq_true rfl) rfl ?_
      exact (a_X7_openTime_b143 (l := l) fu x1 x2 x3 x4 hk27 _ _ _ _ _ _ ).sub ⟨rfl, rfl, rfl, rfl, rfl, rfl, rfl, rfl, rfl, rfl, trivial⟩
    · exact (a_X7_openTime_b143 (l := l) fu x1 x2 x3 x4 hk27 _ _ _ _ _ _ ).sub ⟨rfl, rfl, rfl, rfl, rfl, rfl, rfl, rfl, rfl, rfl, trivial⟩
def F_X7_openTime_b65 (fu : Nat)  (x1 : Int32) (x2 : Int32) (x3 : Int32) (x4 : Int32) (k27 : Int32 → Int32 → Int32 → Int32 → Int32 → xM → Option (Int32 × xM)) (x5 : Int32) (x6 : Int32) (x7 : Int32) (x8 : Int32) (x9 : Int32) (x10 : Int32) (s0 : Int32) (M : xM) : Option (Int32 × xM) :=
  (if (P_X1_has (M 10 5) x9 M) = 0 then
  F_X7_openTime_b108 fu x1 x2 x3 x4 k27 x5 x7 x8 x9 x10 s0 M
  else
  (if x7 = x2 then
  F_X7_openTime_b108 fu x1 x2 x3 x4 k27 x5 x7 x8 x9 x10 s0 M
  else
  F_X7_openTime_b108 fu x1 x2 x3 x4 k27 x5 x7 (x8 + (jmax (0 : Int32) ((jmin s0 x4) - (jmax x6 x3)))) x9 x10 s0 M))
set_option maxRecDepth 100000 in
set_option maxHeartbeats 4000000 in
theorem a_X7_openTime_b65 {l : Launch} (fu : Nat) (x1 : Int32) (x2 : Int32) (x3 : Int32) (x4 : Int32)  {k27 : Int32 → Int32 → Int32 → Int32 → Int32 → xM → Option (Int32 × xM)} (hk27 : ∀ (b0 : Int32) (b1 : Int32) (b2 : Int32) (b3 : Int32) (b4 : Int32) (M : xM), AW SC l RX7 cX7_openTime 12 (some .int) 2 ki (k27 b0 b1 b2 b3 b4 M) 27 [some (xr 10), some (xi x1), some (xi x2), some (xi x3), some (xi x4), some (xi b0), some (xi b1), some (xi b2), some (xi b3), some (xi b4), none, none] [] M) (x5 : Int32) (x6 : Int32) (x7 : Int32) (x8 : Int32) (x9 : Int32) (x10 : Int32) (s0 : Int32) (M : xM)  : AW SC l RX7 cX7_openTime 12 (some .int) 2 ki (F_X7_openTime_b65 fu x1 x2 x3 x4 k27 x5 x6 x7 x8 x9 x10 s0 M) 65 [some (xr 10), some (xi x1), some (xi x2), some (xi x3), some (xi x4), some (xi x5), some (xi x6), some (xi x7), some (xi x8), some (xi x9), some (xi x10), none] [xi s0] M := by
  unfold F_X7_openTime_b65
  refine A_istore dX7_openTime_65 (Nat.le_of_ble_eq_true rfl) rfl ?_
  refine A_aload_n dX7_openTime_67 rfl ?_
  refine A_geti lf_X7_59 rfl rfl dX7_openTime_68 ?_
  refine A_iload dX7_openTime_71 rfl ?_
  refine A_callSp (a_X1_has (S := SC) (l := l) _ _ _ ) lc_X7_66 rfl (by decide) (Nat.le_of_ble_eq_true rfl) rfl dX7_openTime_73 ?_
  refine A_if_eq (tgt := 108) dX7_openTime_76 (by decide) (fun _ => ?_) (fun _ => ?_)
  · exact (a_X7_openTime_b108 (l := l) fu x1 x2 x3 x4 hk27 _ _ _ _ _ _ _ ).sub ⟨rfl, rfl, rfl, rfl, rfl, rfl, rfl, rfl, rfl, rfl, rfl, trivial⟩
  · refine A_iload dX7_openTime_79 rfl ?_
    refine A_iload_n dX7_openTime_81 rfl ?_
    refine A_icmp_eq (tgt := 108) dX7_openTime_82 (by decide) (fun _ => ?_) (fun _ => ?_)
    · exact (a_X7_openTime_b108 (l := l) fu x1 x2 x3 x4 hk27 _ _ _ _ _ _ _ ).sub ⟨rfl, rfl, rfl, rfl, rfl, rfl, rfl, rfl, rfl, rfl, rfl, trivial⟩
    · refine A_iload dX7_openTime_85 rfl ?_
      refine A_iconst (v := (0 : Int32)) dX7_openTime_87 oI_0 ?_
      refine A_iload dX7_openTime_88 rfl ?_
      refine A_iload dX7_openTime_90 rfl ?_
      refine A_jmin lc_X7_69 (by decide) (Nat.le_of_ble_eq_true rfl) dX7_openTime_92 ?_
      refine A_iload dX7_openTime_95 rfl ?_
      refine A_iload_n dX7_openTime_97 rfl ?_
      refine A_jmax lc_X7_75 (by decide) (Nat.le_of_ble_eq_true rfl) dX7_openTime_98 ?_
      refine A_isub dX7_openTime_101 ?_
      refine A_jmax lc_X7_75 (by decide) (Nat.le_of_ble_eq_true rfl) dX7_openTime_102 ?_
      refine A_iadd dX7_openTime_105 ?_
      refine A_istore dX7_openTime_106 (Nat.le_of_ble_eq_true rfl) rfl ?_
      exact (a_X7_openTime_b108 (l := l) fu x1 x2 x3 x4 hk27 _ _ _ _ _ _ _ ).sub ⟨rfl, rfl, rfl, rfl, rfl, rfl, rfl, rfl, rfl, rfl, rfl, trivial⟩
def F_X7_openTime_b27 (fu : Nat)  (x1 : Int32) (x2 : Int32) (x3 : Int32) (x4 : Int32)  : Nat → Int32 → Int32 → Int32 → Int32 → Int32 → xM → Option (Int32 × xM)
  | 0, _, _, _, _, _, _ => none
  | n + 1, x5, x6, x7, x8, x9, M =>
    (if x5 < x9 then
    some (x8, M)
    else
    (if x5 ≤ x9 then
    F_X7_openTime_b65 fu x1 x2 x3 x4 (F_X7_openTime_b27 fu x1 x2 x3 x4 n) x5 x6 x7 x8 x9 ((x1 * (20 : Int32)) + x9) (9999 : Int32) M
    else
    F_X7_openTime_b65 fu x1 x2 x3 x4 (F_X7_openTime_b27 fu x1 x2 x3 x4 n) x5 x6 x7 x8 x9 ((x1 * (20 : Int32)) + x9) (P_X1_at 53 120 ((x1 * (20 : Int32)) + x9) M) M))
set_option maxRecDepth 100000 in
set_option maxHeartbeats 4000000 in
theorem a_X7_openTime_b27 {l : Launch} (fu : Nat) (x1 : Int32) (x2 : Int32) (x3 : Int32) (x4 : Int32)    : ∀ (n : Nat) (x5 : Int32) (x6 : Int32) (x7 : Int32) (x8 : Int32) (x9 : Int32) (M : xM), AW SC l RX7 cX7_openTime 12 (some .int) 2 ki (F_X7_openTime_b27 fu x1 x2 x3 x4 n x5 x6 x7 x8 x9 M) 27 [some (xr 10), some (xi x1), some (xi x2), some (xi x3), some (xi x4), some (xi x5), some (xi x6), some (xi x7), some (xi x8), some (xi x9), none, none] [] M := by
  intro n
  induction n with
  | zero =>
    intro x5 x6 x7 x8 x9 M
    exact AW.none
  | succ n ih =>
    intro x5 x6 x7 x8 x9 M
    rw [F_X7_openTime_b27]
    refine A_iload dX7_openTime_27 rfl ?_
    refine A_iload dX7_openTime_29 rfl ?_
    refine A_icmp_gt (tgt := 149) dX7_openTime_31 (by decide) (fun _ => ?_) (fun _ => ?_)
    · refine A_iload dX7_openTime_149 rfl ?_
      exact A_iret rfl dX7_openTime_151
    · refine A_iload_n dX7_openTime_34 rfl ?_
      refine A_bipush (v := (20 : Int32)) dX7_openTime_35 oB_20 ?_
      refine A_imul dX7_openTime_37 ?_
      refine A_iload dX7_openTime_38 rfl ?_
      refine A_iadd dX7_openTime_40 ?_
      refine A_istore dX7_openTime_41 (Nat.le_of_ble_eq_true rfl) rfl ?_
      refine A_iload dX7_openTime_43 rfl ?_
      refine A_iload dX7_openTime_45 rfl ?_
      refine A_icmp_ge (tgt := 62) dX7_openTime_47 (by decide) (fun _ => ?_) (fun _ => ?_)
      · refine A_sipush (v := (9999 : Int32)) dX7_openTime_62 oS_9999 ?_
        exact (a_X7_openTime_b65 (l := l) fu x1 x2 x3 x4 ih _ _ _ _ _ _ _ _ ).sub ⟨rfl, rfl, rfl, rfl, rfl, rfl, rfl, rfl, rfl, rfl, rfl, trivial⟩
      · refine A_aload_n dX7_openTime_50 rfl ?_
        refine A_getr lf_X7_17 rfl rfl dX7_openTime_51 ?_
        refine A_iload dX7_openTime_54 rfl ?_
        refine A_callSp (a_X1_at (S := SC) (l := l) _ _ _ _ rfl) lc_X7_39 rfl (by decide) (Nat.le_of_ble_eq_true rfl) rfl dX7_openTime_56 ?_
        refine A_goto (tgt := 65) dX7_openTime_59 (by decide) ?_
        exact (a_X7_openTime_b65 (l := l) fu x1 x2 x3 x4 ih _ _ _ _ _ _ _ _ ).sub ⟨rfl, rfl, rfl, rfl, rfl, rfl, rfl, rfl, rfl, rfl, rfl, trivial⟩
def F_X7_openTime (fu : Nat)  (x1 : Int32) (x2 : Int32) (x3 : Int32) (x4 : Int32)   (M : xM) : Option (Int32 × xM) :=
  (F_X7_follow fu x1 M).bind fun q1 =>
  F_X7_openTime_b27 fu x1 x2 x3 x4 fu (P_X1_at 52 6 x1 q1) (0 : Int32) (0 : Int32) (0 : Int32) (0 : Int32) q1
set_option maxRecDepth 100000 in
set_option maxHeartbeats 4000000 in
theorem w_X7_openTime {l : Launch} (fu : Nat) (x1 : Int32) (x2 : Int32) (x3 : Int32) (x4 : Int32)     (M : xM)  : AW SC l RX7 cX7_openTime 12 (some .int) 2 ki (F_X7_openTime fu x1 x2 x3 x4  M) 0 [some (xr 10), some (xi x1), some (xi x2), some (xi x3), some (xi x4), none, none, none, none, none, none, none] [] M := by
  unfold F_X7_openTime
  refine A_aload_n dX7_openTime_0 rfl ?_
  refine A_iload_n dX7_openTime_1 rfl ?_
  refine A_callVv (a_X7_follow (l := l) fu _ _ ) lc_X7_62 rfl rfl (by decide) (Nat.le_of_ble_eq_true rfl) rfl dX7_openTime_2 (fun q1 hq1 => ?_)
  refine A_aload_n dX7_openTime_5 rfl ?_
  refine A_getr lf_X7_11 rfl rfl dX7_openTime_6 ?_
  refine A_iload_n dX7_openTime_9 rfl ?_
  refine A_callSp (a_X1_at (S := SC) (l := l) _ _ _ _ rfl) lc_X7_39 rfl (by decide) (Nat.le_of_ble_eq_true rfl) rfl dX7_openTime_10 ?_
  refine A_istore dX7_openTime_13 (Nat.le_of_ble_eq_true rfl) rfl ?_
  refine A_iconst (v := (0 : Int32)) dX7_openTime_15 oI_0 ?_
  refine A_istore dX7_openTime_16 (Nat.le_of_ble_eq_true rfl) rfl ?_
  refine A_iconst (v := (0 : Int32)) dX7_openTime_18 oI_0 ?_
  refine A_istore dX7_openTime_19 (Nat.le_of_ble_eq_true rfl) rfl ?_
  refine A_iconst (v := (0 : Int32)) dX7_openTime_21 oI_0 ?_
  refine A_istore dX7_openTime_22 (Nat.le_of_ble_eq_true rfl) rfl ?_
  refine A_iconst (v := (0 : Int32)) dX7_openTime_24 oI_0 ?_
  refine A_istore dX7_openTime_25 (Nat.le_of_ble_eq_true rfl) rfl ?_
  exact (a_X7_openTime_b27 (l := l) fu x1 x2 x3 x4  fu _ _ _ _ _ _).sub ⟨rfl, rfl, rfl, rfl, rfl, rfl, rfl, rfl, rfl, rfl, trivial⟩
theorem a_X7_openTime {l : Launch} (fu : Nat)  (x1 : Int32) (x2 : Int32) (x3 : Int32) (x4 : Int32) (M : xM)  : AM SC l yX7_openTime cX7_openTime 12 (some .int) 2 ki [xr 10, xi x1, xi x2, xi x3, xi x4] M (F_X7_openTime fu x1 x2 x3 x4  M) :=
  AM.of (L0 := [some (xr 10), some (xi x1), some (xi x2), some (xi x3), some (xi x4), none, none, none, none, none, none, none]) (w_X7_openTime (l := l) fu x1 x2 x3 x4  M ) (by decide +kernel) rfl (Nat.le_of_ble_eq_true rfl) ⟨rfl, rfl, rfl, rfl, rfl, trivial⟩
def F_X7_placeThen_b63 (fu : Nat)  (x1 : Int32) (x2 : Int32) (k5 : Int32 → Int32 → xM → Option (Int32 × xM)) (x3 : Int32) (x4 : Int32) (M : xM) : Option (Int32 × xM) :=
  k5 x3 (x4 + (1 : Int32)) M
set_option maxRecDepth 100000 in
set_option maxHeartbeats 4000000 in
theorem a_X7_placeThen_b63 {l : Launch} (fu : Nat) (x1 : Int32) (x2 : Int32)  {k5 : Int32 → Int32 → xM → Option (Int32 × xM)} (hk5 : ∀ (b0 : Int32) (b1 : Int32) (M : xM), AW SC l RX7 cX7_placeThen 6 (some .int) 1 ki (k5 b0 b1 M) 5 [some (xr 10), some (xi x1), some (xi x2), some (xi b0), some (xi b1), none] [] M) (x3 : Int32) (x4 : Int32) (M : xM)  : AW SC l RX7 cX7_placeThen 6 (some .int) 1 ki (F_X7_placeThen_b63 fu x1 x2 k5 x3 x4 M) 63 [some (xr 10), some (xi x1), some (xi x2), some (xi x3), some (xi x4), none] [] M := by
  unfold F_X7_placeThen_b63
  refine A_iinc dX7_placeThen_63 rfl oI_1 (Nat.le_of_ble_eq_true rfl) rfl ?_
  refine A_goto (tgt := 5) dX7_placeThen_66 (by decide) ?_
  exact (hk5 _ _ _).sub ⟨rfl, rfl, rfl, rfl, rfl, trivial⟩
def F_X7_placeThen_b5 (fu : Nat)  (x1 : Int32) (x2 : Int32)  : Nat → Int32 → Int32 → xM → Option (Int32 × xM)
  | 0, _, _, _ => none
  | n + 1, x3, x4, M =>
    (if (P_X1_at 52 6 x1 M) ≤ x4 then
    some (x3, M)
    else
    (if (P_X1_at 54 120 ((x1 * (20 : Int32)) + x4) M) = (3 : Int32) then
    (if x2 < (P_X1_at 53 120 ((x1 * (20 : Int32)) + x4) M) then
    F_X7_placeThen_b63 fu x1 x2 (F_X7_placeThen_b5 fu x1 x2 n) x3 x4 M
    else
    F_X7_placeThen_b63 fu x1 x2 (F_X7_placeThen_b5 fu x1 x2 n) (P_X1_at 55 120 ((x1 * (20 : Int32)) + x4) M) x4 M)
    else
    F_X7_placeThen_b63 fu x1 x2 (F_X7_placeThen_b5 fu x1 x2 n) x3 x4 M))
set_option maxRecDepth 100000 in
set_option maxHeartbeats 4000000 in
theorem a_X7_placeThen_b5 {l : Launch} (fu : Nat) (x1 : Int32) (x2 : Int32)    : ∀ (n : Nat) (x3 : Int32) (x4 : Int32) (M : xM), AW SC l RX7 cX7_placeThen 6 (some .int) 1 ki (F_X7_placeThen_b5 fu x1 x2 n x3 x4 M) 5 [some (xr 10), some (xi x1), some (xi x2), some (xi x3), some (xi x4), none] [] M := by
  intro n
  induction n with
  | zero =>
    intro x3 x4 M
    exact AW.none
  | succ n ih =>
    intro x3 x4 M
    rw [F_X7_placeThen_b5]
    refine A_iload dX7_placeThen_5 rfl ?_
    refine A_aload_n dX7_placeThen_7 rfl ?_
    refine A_getr lf_X7_11 rfl rfl dX7_placeThen_8 ?_
    refine A_iload_n dX7_placeThen_11 rfl ?_
    refine A_callSp (a_X1_at (S := SC) (l := l) _ _ _ _ rfl) lc_X7_39 rfl (by decide) (Nat.le_of_ble_eq_true rfl) rfl dX7_placeThen_12 ?_
    refine A_icmp_ge (tgt := 69) dX7_placeThen_15 (by decide) (fun _ => ?_) (fun _ => ?_)
    · refine A_iload_n dX7_placeThen_69 rfl ?_
      exact A_iret rfl dX7_placeThen_70
    · refine A_iload_n dX7_placeThen_18 rfl ?_
      refine A_bipush (v := (20 : Int32)) dX7_placeThen_19 oB_20 ?_
      refine A_imul dX7_placeThen_21 ?_
      refine A_iload dX7_placeThen_22 rfl ?_
      refine A_iadd dX7_placeThen_24 ?_
      refine A_istore dX7_placeThen_25 (Nat.le_of_ble_eq_true rfl) rfl ?_
      refine A_aload_n dX7_placeThen_27 rfl ?_
      refine A_getr lf_X7_20 rfl rfl dX7_placeThen_28 ?_
      refine A_iload dX7_placeThen_31 rfl ?_
      refine A_callSp (a_X1_at (S := SC) (l := l) _ _ _ _ rfl) lc_X7_39 rfl (by decide) (Nat.le_of_ble_eq_true rfl) rfl dX7_placeThen_33 ?_
      refine A_iconst (v := (3 : Int32)) dX7_placeThen_36 oI_3 ?_
      refine A_icmp_ne (tgt := 63) dX7_placeThen_37 (by decide) (fun _ => ?_) (fun _ => ?_)
      · refine A_aload_n dX7_placeThen_40 rfl ?_
        refine A_getr lf_X7_17 rfl rfl dX7_placeThen_41 ?_
        refine A_iload dX7_placeThen_44 rfl ?_
        refine A_callSp (a_X1_at (S := SC) (l := l) _ _ _ _ rfl) lc_X7_39 rfl (by decide) (Nat.le_of_ble_eq_true rfl) rfl dX7_placeThen_46 ?_
        refine A_iload_n dX7_placeThen_49 rfl ?_
        refine A_icmp_gt (tgt := 63) dX7_placeThen_50 (by decide) (fun _ => ?_) (fun _ => ?_)
        · exact (a_X7_placeThen_b63 (l := l) fu x1 x2 ih _ _ _ ).sub ⟨rfl, rfl, rfl, rfl, rfl, trivial⟩
        · refine A_aload_n dX7_placeThen_53 rfl ?_
          refine A_getr lf_X7_23 rfl rfl dX7_placeThen_54 ?_
          refine A_iload dX7_placeThen_57 rfl ?_
          refine A_callSp (a_X1_at (S := SC) (l := l) _ _ _ _ rfl) lc_X7_39 rfl (by decide) (Nat.le_of_ble_eq_true rfl) rfl dX7_placeThen_59 ?_
          refine A_istore_n dX7_placeThen_62 (Nat.le_of_ble_eq_true rfl) rfl ?_
          exact (a_X7_placeThen_b63 (l := l) fu x1 x2 ih _ _ _ ).sub ⟨rfl, rfl, rfl, rfl, rfl, trivial⟩
      · exact (a_X7_placeThen_b63 (l := l) fu x1 x2 ih _ _ _ ).sub ⟨rfl, rfl, rfl, rfl, rfl, trivial⟩
def F_X7_placeThen (fu : Nat)  (x1 : Int32) (x2 : Int32)   (M : xM) : Option (Int32 × xM) :=
  F_X7_placeThen_b5 fu x1 x2 fu (0 : Int32) (0 : Int32) M
set_option maxRecDepth 100000 in
set_option maxHeartbeats 4000000 in
theorem w_X7_placeThen {l : Launch} (fu : Nat) (x1 : Int32) (x2 : Int32)     (M : xM)  : AW SC l RX7 cX7_placeThen 6 (some .int) 1 ki (F_X7_placeThen fu x1 x2  M) 0 [some (xr 10), some (xi x1), some (xi x2), none, none, none] [] M := by
  unfold F_X7_placeThen
  refine A_iconst (v := (0 : Int32)) dX7_placeThen_0 oI_0 ?_
  refine A_istore_n dX7_placeThen_1 (Nat.le_of_ble_eq_true rfl) rfl ?_
  refine A_iconst (v := (0 : Int32)) dX7_placeThen_2 oI_0 ?_
  refine A_istore dX7_placeThen_3 (Nat.le_of_ble_eq_true rfl) rfl ?_
  exact (a_X7_placeThen_b5 (l := l) fu x1 x2  fu _ _ _).sub ⟨rfl, rfl, rfl, rfl, rfl, trivial⟩
theorem a_X7_placeThen {l : Launch} (fu : Nat)  (x1 : Int32) (x2 : Int32) (M : xM)  : AM SC l yX7_placeThen cX7_placeThen 6 (some .int) 1 ki [xr 10, xi x1, xi x2] M (F_X7_placeThen fu x1 x2  M) :=
  AM.of (L0 := [some (xr 10), some (xi x1), some (xi x2), none, none, none]) (w_X7_placeThen (l := l) fu x1 x2  M ) (by decide +kernel) rfl (Nat.le_of_ble_eq_true rfl) ⟨rfl, rfl, rfl, trivial⟩
