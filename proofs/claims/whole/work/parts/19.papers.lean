theorem oB_29 : (Int8.ofInt (29)).toInt32 = (29 : Int32) := by decide +kernel
theorem lf_X6_15 : xfl RX6 15 5 2 (tyX6 2) true := ⟨_, _, _, _, xc_X6, by decide, rfl, rfl, rfl, lw_gm 422 (by decide +kernel) rfl⟩
theorem lf_X6_19 : xfl RX6 19 5 3 (tyX6 3) true := ⟨_, _, _, _, xc_X6, by decide, rfl, rfl, rfl, lw_gm 423 (by decide +kernel) rfl⟩
theorem lf_X6_22 : xfl RX6 22 5 4 (tyX6 4) true := ⟨_, _, _, _, xc_X6, by decide, rfl, rfl, rfl, lw_gm 424 (by decide +kernel) rfl⟩
theorem lf_X6_25 : xfl RX6 25 5 5 (tyX6 5) true := ⟨_, _, _, _, xc_X6, by decide, rfl, rfl, rfl, lw_gm 425 (by decide +kernel) rfl⟩
theorem lf_X6_28 : xfl RX6 28 5 6 (tyX6 6) true := ⟨_, _, _, _, xc_X6, by decide, rfl, rfl, rfl, lw_gm 426 (by decide +kernel) rfl⟩
theorem lf_X6_31 : xfl RX6 31 5 7 (tyX6 7) true := ⟨_, _, _, _, xc_X6, by decide, rfl, rfl, rfl, lw_gm 427 (by decide +kernel) rfl⟩
theorem lf_X6_34 : xfl RX6 34 5 0 (tyX6 0) false := ⟨_, _, _, _, xc_X6, by decide, rfl, rfl, rfl, lw_gm 418 (by decide +kernel) rfl⟩
theorem lf_X6_57 : xfl RX6 57 8 0 (tyX9 0) true := ⟨_, _, _, _, xc_X9, by decide, rfl, rfl, rfl, lw_gm 209 (by decide +kernel) rfl⟩
theorem lf_X6_60 : xfl RX6 60 8 1 (tyX9 1) false := ⟨_, _, _, _, xc_X9, by decide, rfl, rfl, rfl, lw_gm 212 (by decide +kernel) rfl⟩
theorem lf_X6_9 : xfl RX6 9 5 1 (tyX6 1) false := ⟨_, _, _, _, xc_X6, by decide, rfl, rfl, rfl, lw_gm 420 (by decide +kernel) rfl⟩
theorem lc_X6_102 : xlS RX6 102 yJ6_bitCount_0f7a4 cJ6_bitCount_0f7a4 1 (some .int) 1 := ⟨⟨lw_gm 1207 (by decide +kernel) rfl, lw_gm 118 (by decide +kernel) rfl, lw_gm 521 (by decide +kernel) rfl, ⟨by decide, by decide, by decide +kernel⟩, by decide⟩, lw_gm 520 (by decide +kernel) rfl⟩
theorem lc_X6_107 : xlS RX6 107 yJ6_numberOfTrailingZeros_0f7a4 cJ6_numberOfTrailingZeros_0f7a4 2 (some .int) 1 := ⟨⟨lw_gm 1208 (by decide +kernel) rfl, lw_gm 118 (by decide +kernel) rfl, lw_gm 1210 (by decide +kernel) rfl, ⟨by decide, by decide, by decide +kernel⟩, by decide⟩, lw_gm 1209 (by decide +kernel) rfl⟩
theorem lc_X6_110 : xlV RX6 110 yX6_isReadAtAll cX6_isReadAtAll 3 (some .boolean) 1 5 := ⟨⟨lw_gm 1224 (by decide +kernel) rfl, lw_gm 115 (by decide +kernel) rfl, lw_gm 1227 (by decide +kernel) rfl, ⟨by decide, by decide, by decide +kernel⟩, by decide⟩, lw_gm 1226 (by decide +kernel) rfl, lw_gm 33 (by decide +kernel) rfl, _, _, rfl⟩
theorem lc_X6_114 : xlV RX6 114 yX6_agreedName cX6_agreedName 6 (some .int) 1 5 := ⟨⟨lw_gm 1228 (by decide +kernel) rfl, lw_gm 115 (by decide +kernel) rfl, lw_gm 1203 (by decide +kernel) rfl, ⟨by decide, by decide, by decide +kernel⟩, by decide⟩, lw_gm 1201 (by decide +kernel) rfl, lw_gm 1202 (by decide +kernel) rfl, _, _, rfl⟩
theorem lc_X6_117 : xlV RX6 117 yX6_isUnlike cX6_isUnlike 7 (some .boolean) 1 5 := ⟨⟨lw_gm 1229 (by decide +kernel) rfl, lw_gm 115 (by decide +kernel) rfl, lw_gm 1232 (by decide +kernel) rfl, ⟨by decide, by decide, by decide +kernel⟩, by decide⟩, lw_gm 1231 (by decide +kernel) rfl, lw_gm 34 (by decide +kernel) rfl, _, _, rfl⟩
theorem lc_X6_120 : xlV RX6 120 yX6_counts cX6_counts 3 (some .boolean) 2 5 := ⟨⟨lw_gm 1220 (by decide +kernel) rfl, lw_gm 115 (by decide +kernel) rfl, lw_gm 1223 (by decide +kernel) rfl, ⟨by decide, by decide, by decide +kernel⟩, by decide⟩, lw_gm 1222 (by decide +kernel) rfl, lw_gm 32 (by decide +kernel) rfl, _, _, rfl⟩
theorem lc_X6_123 : xlV RX6 123 yX6_mayBeFor cX6_mayBeFor 4 (some .boolean) 2 5 := ⟨⟨lw_gm 1245 (by decide +kernel) rfl, lw_gm 115 (by decide +kernel) rfl, lw_gm 1248 (by decide +kernel) rfl, ⟨by decide, by decide, by decide +kernel⟩, by decide⟩, lw_gm 1247 (by decide +kernel) rfl, lw_gm 35 (by decide +kernel) rfl, _, _, rfl⟩
theorem lc_X6_126 : xlS RX6 126 yX1_has cX1_has 2 (some .boolean) 2 := ⟨⟨lw_gm 1249 (by decide +kernel) rfl, lw_gm 106 (by decide +kernel) rfl, lw_gm 858 (by decide +kernel) rfl, ⟨by decide, by decide, by decide +kernel⟩, by decide⟩, lw_gm 857 (by decide +kernel) rfl⟩
theorem lc_X6_129 : xlV RX6 129 yX6_isAboveOthers cX6_isAboveOthers 4 (some .boolean) 1 5 := ⟨⟨lw_gm 1258 (by decide +kernel) rfl, lw_gm 115 (by decide +kernel) rfl, lw_gm 1261 (by decide +kernel) rfl, ⟨by decide, by decide, by decide +kernel⟩, by decide⟩, lw_gm 1260 (by decide +kernel) rfl, lw_gm 36 (by decide +kernel) rfl, _, _, rfl⟩
theorem lc_X6_132 : xlV RX6 132 yX6_sureFor cX6_sureFor 4 (some .int) 1 5 := ⟨⟨lw_gm 1262 (by decide +kernel) rfl, lw_gm 115 (by decide +kernel) rfl, lw_gm 1240 (by decide +kernel) rfl, ⟨by decide, by decide, by decide +kernel⟩, by decide⟩, lw_gm 1238 (by decide +kernel) rfl, lw_gm 1239 (by decide +kernel) rfl, _, _, rfl⟩
theorem lc_X6_135 : xlV RX6 135 yX6_mostFor cX6_mostFor 4 (some .int) 1 5 := ⟨⟨lw_gm 1263 (by decide +kernel) rfl, lw_gm 115 (by decide +kernel) rfl, lw_gm 1244 (by decide +kernel) rfl, ⟨by decide, by decide, by decide +kernel⟩, by decide⟩, lw_gm 1242 (by decide +kernel) rfl, lw_gm 1243 (by decide +kernel) rfl, _, _, rfl⟩
theorem lc_X6_37 : xlS RX6 37 yX1_within cX1_within 3 (some .boolean) 3 := ⟨⟨lw_gm 1162 (by decide +kernel) rfl, lw_gm 106 (by decide +kernel) rfl, lw_gm 518 (by decide +kernel) rfl, ⟨by decide, by decide, by decide +kernel⟩, by decide⟩, lw_gm 517 (by decide +kernel) rfl⟩
theorem lc_X6_43 : xlS RX6 43 yX6_reading cX6_reading 2 (some .int) 2 := ⟨⟨lw_gm 1163 (by decide +kernel) rfl, lw_gm 115 (by decide +kernel) rfl, lw_gm 1165 (by decide +kernel) rfl, ⟨by decide, by decide, by decide +kernel⟩, by decide⟩, lw_gm 1164 (by decide +kernel) rfl⟩
theorem lc_X6_47 : xlS RX6 47 yX1_at cX1_at 2 (some .int) 2 := ⟨⟨lw_gm 1146 (by decide +kernel) rfl, lw_gm 106 (by decide +kernel) rfl, lw_gm 560 (by decide +kernel) rfl, ⟨by decide, by decide, by decide +kernel⟩, by decide⟩, lw_gm 559 (by decide +kernel) rfl⟩
theorem lc_X6_51 : xlV RX6 51 yX9_isWord cX9_isWord 5 (some .boolean) 1 8 := ⟨⟨lw_gm 1138 (by decide +kernel) rfl, lw_gm 108 (by decide +kernel) rfl, lw_gm 1141 (by decide +kernel) rfl, ⟨by decide, by decide, by decide +kernel⟩, by decide⟩, lw_gm 1139 (by decide +kernel) rfl, lw_gm 1140 (by decide +kernel) rfl, _, _, rfl⟩
theorem lc_X6_63 : xlS RX6 63 yX6_isSame cX6_isSame 6 (some .boolean) 5 := ⟨⟨lw_gm 1143 (by decide +kernel) rfl, lw_gm 115 (by decide +kernel) rfl, lw_gm 1145 (by decide +kernel) rfl, ⟨by decide, by decide, by decide +kernel⟩, by decide⟩, lw_gm 1144 (by decide +kernel) rfl⟩
theorem lc_X6_67 : xlV RX6 67 yX9_copyTo cX9_copyTo 4 none 2 8 := ⟨⟨lw_gm 1147 (by decide +kernel) rfl, lw_gm 108 (by decide +kernel) rfl, lw_gm 731 (by decide +kernel) rfl, ⟨by decide, by decide, by decide +kernel⟩, by decide⟩, lw_gm 729 (by decide +kernel) rfl, lw_gm 730 (by decide +kernel) rfl, _, _, rfl⟩
theorem lc_X6_71 : xlS RX6 71 yX1_put cX1_put 3 none 3 := ⟨⟨lw_gm 1148 (by decide +kernel) rfl, lw_gm 106 (by decide +kernel) rfl, lw_gm 527 (by decide +kernel) rfl, ⟨by decide, by decide, by decide +kernel⟩, by decide⟩, lw_gm 526 (by decide +kernel) rfl⟩
theorem lc_X6_75 : xlV RX6 75 yX6_measure cX6_measure 11 none 2 5 := ⟨⟨lw_gm 1149 (by decide +kernel) rfl, lw_gm 115 (by decide +kernel) rfl, lw_gm 1152 (by decide +kernel) rfl, ⟨by decide, by decide, by decide +kernel⟩, by decide⟩, lw_gm 1151 (by decide +kernel) rfl, lw_gm 31 (by decide +kernel) rfl, _, _, rfl⟩
theorem lc_X6_79 : xlS RX6 79 Lib.Math.min.name Lib.Math.min.code 2 (some .int) 2 := ⟨⟨lw_gm 1153 (by decide +kernel) rfl, lw_gm 107 (by decide +kernel) rfl, lw_gm 142 (by decide +kernel) rfl, ⟨by decide, by decide, by decide +kernel⟩, by decide⟩, lw_gm 141 (by decide +kernel) rfl⟩
theorem lc_X6_84 : xlV RX6 84 yX6_farFrom cX6_farFrom 4 (some .int) 3 5 := ⟨⟨lw_gm 1194 (by decide +kernel) rfl, lw_gm 115 (by decide +kernel) rfl, lw_gm 1185 (by decide +kernel) rfl, ⟨by decide, by decide, by decide +kernel⟩, by decide⟩, lw_gm 1183 (by decide +kernel) rfl, lw_gm 1184 (by decide +kernel) rfl, _, _, rfl⟩
theorem lc_X6_88 : xlS RX6 88 yX1_bit cX1_bit 1 (some .int) 1 := ⟨⟨lw_gm 1195 (by decide +kernel) rfl, lw_gm 106 (by decide +kernel) rfl, lw_gm 515 (by decide +kernel) rfl, ⟨by decide, by decide, by decide +kernel⟩, by decide⟩, lw_gm 514 (by decide +kernel) rfl⟩
theorem lc_X6_92 : xlV RX6 92 yX6_isRead cX6_isRead 4 (some .boolean) 2 5 := ⟨⟨lw_gm 1205 (by decide +kernel) rfl, lw_gm 115 (by decide +kernel) rfl, lw_gm 1177 (by decide +kernel) rfl, ⟨by decide, by decide, by decide +kernel⟩, by decide⟩, lw_gm 1175 (by decide +kernel) rfl, lw_gm 1176 (by decide +kernel) rfl, _, _, rfl⟩
theorem lc_X6_96 : xlS RX6 96 yX1_all cX1_all 1 (some .int) 1 := ⟨⟨lw_gm 1204 (by decide +kernel) rfl, lw_gm 106 (by decide +kernel) rfl, lw_gm 512 (by decide +kernel) rfl, ⟨by decide, by decide, by decide +kernel⟩, by decide⟩, lw_gm 511 (by decide +kernel) rfl⟩
theorem lc_X6_99 : xlV RX6 99 yX6_nearest cX6_nearest 7 (some .int) 2 5 := ⟨⟨lw_gm 1206 (by decide +kernel) rfl, lw_gm 115 (by decide +kernel) rfl, lw_gm 1193 (by decide +kernel) rfl, ⟨by decide, by decide, by decide +kernel⟩, by decide⟩, lw_gm 1191 (by decide +kernel) rfl, lw_gm 1192 (by decide +kernel) rfl, _, _, rfl⟩
def P_X6_isName  (x1 : Int32)   (M : xM) : Int32 :=
  (P_X1_within x1 (0 : Int32) ((M 9 0) - (1 : Int32)) M)
set_option maxRecDepth 100000 in
set_option maxHeartbeats 4000000 in
theorem w_X6_isName {l : Launch} (x1 : Int32)     (M : xM)  : AW SC l RX6 cX6_isName 2 (some .boolean) 1 ki (some (P_X6_isName x1  M, M)) 0 [some (xr 9), some (xi x1)] [] M := by
  unfold P_X6_isName
  refine A_iload_n dX6_isName_0 rfl ?_
  refine A_iconst (v := (0 : Int32)) dX6_isName_1 oI_0 ?_
  refine A_aload_n dX6_isName_2 rfl ?_
  refine A_geti lf_X6_34 rfl rfl dX6_isName_3 ?_
  refine A_iconst (v := (1 : Int32)) dX6_isName_6 oI_1 ?_
  refine A_isub dX6_isName_7 ?_
  refine A_callSp (a_X1_within (S := SC) (l := l) _ _ _ _ ) lc_X6_37 rfl (by decide) (Nat.le_of_ble_eq_true rfl) rfl dX6_isName_8 ?_
  exact A_zret' rfl (zP_X1_within _ _ _ _) dX6_isName_11
theorem a_X6_isName {l : Launch}  (x1 : Int32) (M : xM)  : AM SC l yX6_isName cX6_isName 2 (some .boolean) 1 ki [xr 9, xi x1] M (some (P_X6_isName  x1  M, M)) :=
  AM.of (L0 := [some (xr 9), some (xi x1)]) (w_X6_isName (l := l) x1  M ) (by decide +kernel) rfl (Nat.le_of_ble_eq_true rfl) ⟨rfl, rfl, trivial⟩
theorem zP_X6_isName (x1 : Int32) (M : xM) : P_X6_isName x1 M = 0 ∨ P_X6_isName x1 M = 1 := by
  unfold P_X6_isName
  repeat' split
  all_goals first | decide | with_reducible exact zP_X1_within _ _ _ _
def P_X6_reading  (x0 : Int32) (x1 : Int32)   (M : xM) : Int32 :=
  ((x1 * (4 : Int32)) + x0)
set_option maxRecDepth 100000 in
set_option maxHeartbeats 4000000 in
theorem w_X6_reading {l : Launch} (x0 : Int32) (x1 : Int32)     (M : xM)  : AW SC l RX6 cX6_reading 2 (some .int) 0 ki (some (P_X6_reading x0 x1  M, M)) 0 [some (xi x0), some (xi x1)] [] M := by
  unfold P_X6_reading
  refine A_iload_n dX6_reading_0 rfl ?_
  refine A_iconst (v := (4 : Int32)) dX6_reading_1 oI_4 ?_
  refine A_imul dX6_reading_2 ?_
  refine A_iload_n dX6_reading_3 rfl ?_
  refine A_iadd dX6_reading_4 ?_
  exact A_iret rfl dX6_reading_5
theorem a_X6_reading {l : Launch}  (x0 : Int32) (x1 : Int32) (M : xM)  : AM SC l yX6_reading cX6_reading 2 (some .int) 0 ki [xi x0, xi x1] M (some (P_X6_reading  x0 x1  M, M)) :=
  AM.of (L0 := [some (xi x0), some (xi x1)]) (w_X6_reading (l := l) x0 x1  M ) (by decide +kernel) rfl (Nat.le_of_ble_eq_true rfl) ⟨rfl, rfl, trivial⟩
def P_X6_isRead_b24  (x1 : Int32) (x2 : Int32)  (s0 : Int32) (M : xM) : Int32 :=
  (if s0 = 0 then
  (0 : Int32)
  else
  (if (P_X1_at 49 120 (P_X6_reading x1 x2 M) M) ≤ 0 then
  (0 : Int32)
  else
  (1 : Int32)))
set_option maxRecDepth 100000 in
set_option maxHeartbeats 4000000 in
theorem a_X6_isRead_b24 {l : Launch} (x1 : Int32) (x2 : Int32)    (s0 : Int32) (M : xM)  : AW SC l RX6 cX6_isRead 4 (some .boolean) 1 ki (some (P_X6_isRead_b24 x1 x2 s0 M, M)) 24 [some (xr 9), some (xi x1), some (xi x2), none] [xi s0] M := by
  unfold P_X6_isRead_b24
  refine A_istore_n dX6_isRead_24 (Nat.le_of_ble_eq_true rfl) rfl ?_
  refine A_iload_n dX6_isRead_25 rfl ?_
  refine A_if_eq_p (tgt := 48) dX6_isRead_26 (by decide) (fun _ => ?_) (fun _ => ?_)
  · refine A_iconst (v := (0 : Int32)) dX6_isRead_48 oI_0 ?_
    exact A_zret' rfl (Or.inl rfl) dX6_isRead_49
  · refine A_aload_n dX6_isRead_29 rfl ?_
    refine A_getr lf_X6_25 rfl rfl dX6_isRead_30 ?_
    refine A_iload_n dX6_isRead_33 rfl ?_
    refine A_iload_n dX6_isRead_34 rfl ?_
    refine A_callSp (a_X6_reading (l := l) _ _ _ ) lc_X6_43 rfl (by decide) (Nat.le_of_ble_eq_true rfl) rfl dX6_isRead_35 ?_
    refine A_callSp (a_X1_at (S := SC) (l := l) _ _ _ _ rfl) lc_X6_47 rfl (by decide) (Nat.le_of_ble_eq_true rfl) rfl dX6_isRead_38 ?_
    refine A_if_le_p (tgt := 48) dX6_isRead_41 (by decide) (fun _ => ?_) (fun _ => ?_)
    · refine A_iconst (v := (0 : Int32)) dX6_isRead_48 oI_0 ?_
      exact A_zret' rfl (Or.inl rfl) dX6_isRead_49
    · refine A_iconst (v := (1 : Int32)) dX6_isRead_44 oI_1 ?_
      refine A_goto (tgt := 49) dX6_isRead_45 (by decide) ?_
      exact A_zret' rfl (Or.inr rfl) dX6_isRead_49
def P_X6_isRead_b23  (x1 : Int32) (x2 : Int32)   (M : xM) : Int32 :=
  P_X6_isRead_b24 x1 x2 (0 : Int32) M
set_option maxRecDepth 100000 in
set_option maxHeartbeats 4000000 in
theorem a_X6_isRead_b23 {l : Launch} (x1 : Int32) (x2 : Int32)     (M : xM)  : AW SC l RX6 cX6_isRead 4 (some .boolean) 1 ki (some (P_X6_isRead_b23 x1 x2  M, M)) 23 [some (xr 9), some (xi x1), some (xi x2), none] [] M := by
  unfold P_X6_isRead_b23
  refine A_iconst (v := (0 : Int32)) dX6_isRead_23 oI_0 ?_
  exact (a_X6_isRead_b24 (l := l) x1 x2  _ _ ).sub ⟨rfl, rfl, rfl, trivial⟩
def P_X6_isRead  (x1 : Int32) (x2 : Int32)   (M : xM) : Int32 :=
  (if (P_X1_within x1 (0 : Int32) (3 : Int32) M) = 0 then
  P_X6_isRead_b23 x1 x2  M
  else
  (if (P_X1_within x2 (0 : Int32) (29 : Int32) M) = 0 then
  P_X6_isRead_b23 x1 x2  M
  else
  P_X6_isRead_b24 x1 x2 (1 : Int32) M))
set_option maxRecDepth 100000 in
set_option maxHeartbeats 4000000 in
theorem w_X6_isRead {l : Launch} (x1 : Int32) (x2 : Int32)     (M : xM)  : AW SC l RX6 cX6_isRead 4 (some .boolean) 1 ki (some (P_X6_isRead x1 x2  M, M)) 0 [some (xr 9), some (xi x1), some (xi x2), none] [] M := by
  unfold P_X6_isRead
  refine A_iload_n dX6_isRead_0 rfl ?_
  refine A_iconst (v := (0 : Int32)) dX6_isRead_1 oI_0 ?_
  refine A_iconst (v := (3 : Int32)) dX6_isRead_2 oI_3 ?_
  refine A_callSp (a_X1_within (S := SC) (l := l) _ _ _ _ ) lc_X6_37 rfl (by decide) (Nat.le_of_ble_eq_true rfl) rfl dX6_isRead_3 ?_
  refine A_if_eq_p (tgt := 23) dX6_isRead_6 (by decide) (fun _ => ?_) (fun _ => ?_)
  · exact (a_X6_isRead_b23 (l := l) x1 x2   _ ).sub ⟨rfl, rfl, rfl, trivial⟩
  · refine A_iload_n dX6_isRead_9 rfl ?_
    refine A_iconst (v := (0 : Int32)) dX6_isRead_10 oI_0 ?_
    refine A_bipush (v := (29 : Int32)) dX6_isRead_11 oB_29 ?_
    refine A_callSp (a_X1_within (S := SC) (l := l) _ _ _ _ ) lc_X6_37 rfl (by decide) (Nat.le_of_ble_eq_true rfl) rfl dX6_isRead_13 ?_
    refine A_if_eq_p (tgt := 23) dX6_isRead_16 (by decide) (fun _ => ?_) (fun _ => ?_)
    · exact (a_X6_isRead_b23 (l := l) x1 x2   _ ).sub ⟨rfl, rfl, rfl, trivial⟩
    · refine A_iconst (v := (1 : Int32)) dX6_isRead_19 oI_1 ?_
      refine A_goto (tgt := 24) dX6_isRead_20 (by decide) ?_
      exact (a_X6_isRead_b24 (l := l) x1 x2  _ _ ).sub ⟨rfl, rfl, rfl, trivial⟩
theorem a_X6_isRead {l : Launch}  (x1 : Int32) (x2 : Int32) (M : xM)  : AM SC l yX6_isRead cX6_isRead 4 (some .boolean) 1 ki [xr 9, xi x1, xi x2] M (some (P_X6_isRead  x1 x2  M, M)) :=
  AM.of (L0 := [some (xr 9), some (xi x1), some (xi x2), none]) (w_X6_isRead (l := l) x1 x2  M ) (by decide +kernel) rfl (Nat.le_of_ble_eq_true rfl) ⟨rfl, rfl, rfl, trivial⟩
theorem zP_X6_isRead (x1 : Int32) (x2 : Int32) (M : xM) : P_X6_isRead x1 x2 M = 0 ∨ P_X6_isRead x1 x2 M = 1 := by
  unfold P_X6_isRead
  try unfold P_X6_isRead_b23
  try unfold P_X6_isRead_b24
  repeat' split
  all_goals first | decide | with_reducible exact zP_X1_within _ _ _ _
def F_X6_isSame_b3 (fu : Nat)  (r0 n0 : Nat) (x1 : Int32) (r2 n2 : Nat) (x3 : Int32) (x4 : Int32)  : Nat → Int32 → xM → Option (Int32 × xM)
  | 0, _, _ => none
  | n + 1, x5, M =>
    (if x4 ≤ x5 then
    some ((1 : Int32), M)
    else
    (if (P_X1_at r0 n0 (x1 + x5) M) = (P_X1_at r2 n2 (x3 + x5) M) then
    F_X6_isSame_b3 fu r0 n0 x1 r2 n2 x3 x4 n (x5 + (1 : Int32)) M
    else
    some ((0 : Int32), M)))
set_option maxRecDepth 100000 in
set_option maxHeartbeats 4000000 in
theorem a_X6_isSame_b3 {l : Launch} (fu : Nat) (r0 n0 : Nat) (x1 : Int32) (r2 n2 : Nat) (x3 : Int32) (x4 : Int32) (h0 : SC[r0]? = some (.inl (0, n0))) (h2 : SC[r2]? = some (.inl (0, n2)))   : ∀ (n : Nat) (x5 : Int32) (M : xM), AW SC l RX6 cX6_isSame 6 (some .boolean) 1 ki (F_X6_isSame_b3 fu r0 n0 x1 r2 n2 x3 x4 n x5 M) 3 [some (xr r0), some (xi x1), some (xr r2), some (xi x3), some (xi x4), some (xi x5)] [] M := by
  intro n
  induction n with
  | zero =>
    intro x5 M
    exact AW.none
  | succ n ih =>
    intro x5 M
    rw [F_X6_isSame_b3]
    refine A_iload dX6_isSame_3 rfl ?_
    refine A_iload dX6_isSame_5 rfl ?_
    refine A_icmp_ge (tgt := 37) dX6_isSame_7 (by decide) (fun _ => ?_) (fun _ => ?_)
    · refine A_iconst (v := (1 : Int32)) dX6_isSame_37 oI_1 ?_
      exact A_zret' rfl (Or.inr rfl) dX6_isSame_38
    · refine A_aload_n dX6_isSame_10 rfl ?_
      refine A_iload_n dX6_isSame_11 rfl ?_
      refine A_iload dX6_isSame_12 rfl ?_
      refine A_iadd dX6_isSame_14 ?_
      refine A_callSp (a_X1_at (S := SC) (l := l) _ _ _ _ h0) lc_X6_47 rfl (by decide) (Nat.le_of_ble_eq_true rfl) rfl dX6_isSame_15 ?_
      refine A_aload_n dX6_isSame_18 rfl ?_
      refine A_iload_n dX6_isSame_19 rfl ?_
      refine A_iload dX6_isSame_20 rfl ?_
      refine A_iadd dX6_isSame_22 ?_
      refine A_callSp (a_X1_at (S := SC) (l := l) _ _ _ _ h2) lc_X6_47 rfl (by decide) (Nat.le_of_ble_eq_true rfl) rfl dX6_isSame_23 ?_
      refine A_icmp_eq (tgt := 31) dX6_isSame_26 (by decide) (fun _ => ?_) (fun _ => ?_)
      · refine A_iinc dX6_isSame_31 rfl oI_1 (Nat.le_of_ble_eq_true rfl) rfl ?_
        refine A_goto (tgt := 3) dX6_isSame_34 (by decide) ?_
        exact (ih _ _).sub ⟨rfl, rfl, rfl, rfl, rfl, rfl, trivial⟩
      · refine A_iconst (v := (0 : Int32)) dX6_isSame_29 oI_0 ?_
        exact A_zret' rfl (Or.inl rfl) dX6_isSame_30
def F_X6_isSame (fu : Nat)  (r0 n0 : Nat) (x1 : Int32) (r2 n2 : Nat) (x3 : Int32) (x4 : Int32)   (M : xM) : Option (Int32 × xM) :=
  F_X6_isSame_b3 fu r0 n0 x1 r2 n2 x3 x4 fu (0 : Int32) M
set_option maxRecDepth 100000 in
set_option maxHeartbeats 4000000 in
theorem w_X6_isSame {l : Launch} (fu : Nat) (r0 n0 : Nat) (x1 : Int32) (r2 n2 : Nat) (x3 : Int32) (x4 : Int32) (h0 : SC[r0]? = some (.inl (0, n0))) (h2 : SC[r2]? = some (.inl (0, n2)))    (M : xM)  : AW SC l RX6 cX6_isSame 6 (some .boolean) 1 ki (F_X6_isSame fu r0 n0 x1 r2 n2 x3 x4  M) 0 [some (xr r0), some (xi x1), some (xr r2), some (xi x3), some (xi x4), none] [] M := by
  unfold F_X6_isSame
  refine A_iconst (v := (0 : Int32)) dX6_isSame_0 oI_0 ?_
  refine A_istore dX6_isSame_1 (Nat.le_of_ble_eq_true rfl) rfl ?_
  exact (a_X6_isSame_b3 (l := l) fu r0 n0 x1 r2 n2 x3 x4 h0 h2  fu _ _).sub ⟨rfl, rfl, rfl, rfl, rfl, rfl, trivial⟩
theorem a_X6_isSame {l : Launch} (fu : Nat)  (r0 n0 : Nat) (x1 : Int32) (r2 n2 : Nat) (x3 : Int32) (x4 : Int32) (M : xM) (h0 : SC[r0]? = some (.inl (0, n0))) (h2 : SC[r2]? = some (.inl (0, n2))) : AM SC l yX6_isSame cX6_isSame 6 (some .boolean) 1 ki [xr r0, xi x1, xr r2, xi x3, xi x4] M (F_X6_isSame fu r0 n0 x1 r2 n2 x3 x4  M) :=
  AM.of (L0 := [some (xr r0), some (xi x1), some (xr r2), some (xi x3), some (xi x4), none]) (w_X6_isSame (l := l) fu r0 n0 x1 r2 n2 x3 x4 h0 h2  M ) (by decide +kernel) rfl (Nat.le_of_ble_eq_true rfl) ⟨rfl, rfl, rfl, rfl, rfl, trivial⟩
def F_X6_measure_b145 (fu : Nat)  (x1 : Int32) (x2 : Int32) (k38 : Int32 → Int32 → xM → Option (xM)) (k92 : Int32 → Int32 → Int32 → Int32 → Int32 → xM → Option (xM)) (x3 : Int32) (x4 : Int32) (x5 : Int32) (x7 : Int32) (s0 : Int32) (s1 : Int32) (M : xM) : Option (xM) :=
  (F_X1_put 51 9 x7 (jmin (s1 + s0) ((jmin (P_X1_at 51 9 x7 M) (P_X1_at 51 9 (x7 - (1 : Int32)) M)) + (1 : Int32))) M).bind fun q1 =>
  k92 x3 x4 x5 (P_X1_at 51 9 x7 M) (x7 + (1 : Int32)) q1
set_option maxRecDepth 100000 in
set_option maxHeartbeats 4000000 in
theorem a_X6_measure_b145 {l : Launch} (fu : Nat) (x1 : Int32) (x2 : Int32)  {k38 : Int32 → Int32 → xM → Option (xM)} {k92 : Int32 → Int32 → Int32 → Int32 → Int32 → xM → Option (xM)} (hk38 : ∀ (b0 : Int32) (b1 : Int32) (M : xM), AW SC l RX6 cX6_measure 11 none 2 kv (k38 b0 b1 M) 38 [some (xr 9), some (xi x1), some (xi x2), some (xi b0), some (xi b1), none, none, none, none, none, none] [] M) (hk92 : ∀ (b0 : Int32) (b1 : Int32) (b2 : Int32) (b3 : Int32) (b4 : Int32) (M : xM), AW SC l RX6 cX6_measure 11 none 2 kv (k92 b0 b1 b2 b3 b4 M) 92 [some (xr 9), some (xi x1), some (xi x2), some (xi b0), some (xi b1), some (xi b2), some (xi b3), some (xi b4), none, none, none] [] M) (x3 : Int32) (x4 : Int32) (x5 : Int32) (x7 : Int32) (s0 : Int32) (s1 : Int32) (M : xM)  : AW SC l RX6 cX6_measure 11 none 2 kv (F_X6_measure_b145 fu x1 x2 k38 k92 x3 x4 x5 x7 s0 s1 M) 145 [some (xr 9), some (xi x1), some (xi x2), some (xi x3), some (xi x4), some (xi x5), none, some (xi x7), none, none, none] [xi s0, xi s1] M := by
  unfold F_X6_measure_b145
  refine A_iadd dX6_measure_145 ?_
  refine A_istore dX6_measure_146 (Nat.le_of_ble_eq_true rfl) rfl ?_
  refine A_aload_n dX6_measure_148 rfl ?_
  refine A_getr lf_X6_31 rfl rfl dX6_measure_149 ?_
  refine A_iload dX6_measure_152 rfl ?_
  refine A_callSp (a_X1_at (S := SC) (l := l) _ _ _ _ rfl) lc_X6_47 rfl (by decide) (Nat.le_of_ble_eq_true rfl) rfl dX6_measure_154 ?_
  refine A_istore dX6_measure_157 (Nat.le_of_ble_eq_true rfl) rfl ?_
  refine A_iload dX6_measure_159 rfl ?_
  refine A_aload_n dX6_measure_161 rfl ?_
  refine A_getr lf_X6_31 rfl rfl dX6_measure_162 ?_
  refine A_iload dX6_measure_165 rfl ?_
  refine A_iconst (v := (1 : Int32)) dX6_measure_167 oI_1 ?_
  refine A_isub dX6_measure_168 ?_
  refine A_callSp (a_X1_at (S := SC) (l := l) _ _ _ _ rfl) lc_X6_47 rfl (by decide) (Nat.le_of_ble_eq_true rfl) rfl dX6_measure_169 ?_
  refine A_jmin lc_X6_79 (by decide) (Nat.le_of_ble_eq_true rfl) dX6_measure_172 ?_
  refine A_iconst (v := (1 : Int32)) dX6_measure_175 oI_1 ?_
  refine A_iadd dX6_measure_176 ?_
  refine A_istore dX6_measure_177 (Nat.le_of_ble_eq_true rfl) rfl ?_
  refine A_aload_n dX6_measure_179 rfl ?_
  refine A_getr lf_X6_31 rfl rfl dX6_measure_180 ?_
  refine A_iload dX6_measure_183 rfl ?_
  refine A_iload dX6_measure_185 rfl ?_
  refine A_iload dX6_measure_187 rfl ?_
  refine A_jmin lc_X6_79 (by decide) (Nat.le_of_ble_eq_true rfl) dX6_measure_189 ?_
  refine A_callSv (a_X1_put (S := SC) (l := l) _ _ _ _ _ rfl) lc_X6_71 rfl (by decide) (Nat.le_of_ble_eq_true rfl) rfl dX6_measure_192 (fun q1 hq1 => ?_)
  refine A_iinc dX6_measure_195 rfl oI_1 (Nat.le_of_ble_eq_true rfl) rfl ?_
  refine A_goto (tgt := 92) dX6_measure_198 (by decide) ?_
  exact (hk92 _ _ _ _ _ _).sub ⟨rfl, rfl, rfl, rfl, rfl, rfl, rfl, rfl, trivial⟩
def F_X6_measure_b131 (fu : Nat)  (x1 : Int32) (x2 : Int32) (k38 : Int32 → Int32 → xM → Option (xM)) (k92 : Int32 → Int32 → Int32 → Int32 → Int32 → xM → Option (xM)) (x3 : Int32) (x4 : Int32) (x5 : Int32) (x6 : Int32) (x7 : Int32) (s0 : Int32) (M : xM) : Option (xM) :=
  (if s0 = 0 then
  F_X6_measure_b145 fu x1 x2 k38 k92 x3 x4 x5 x7 (1 : Int32) x6 M
  else
  F_X6_measure_b145 fu x1 x2 k38 k92 x3 x4 x5 x7 (0 : Int32) x6 M)
set_option maxRecDepth 100000 in
set_option maxHeartbeats 4000000 in
theorem a_X6_measure_b131 {l : Launch} (fu : Nat) (x1 : Int32) (x2 : Int32)  {k38 : Int32 → Int32 → xM → Option (xM)} {k92 : Int32 → Int32 → Int32 → Int32 → Int32 → xM → Option (xM)} (hk38 : ∀ (b0 : Int32) (b1 : Int32) (M : xM), AW SC l RX6 cX6_measure 11 none 2 kv (k38 b0 b1 M) 38 [some (xr 9), some (xi x1), some (xi x2), some (xi b0), some (xi b1), none, none, none, none, none, none] [] M) (hk92 : ∀ (b0 : Int32) (b1 : Int32) (b2 : Int32) (b3 : Int32) (b4 : Int32) (M : xM), AW SC l RX6 cX6_measure 11 none 2 kv (k92 b0 b1 b2 b3 b4 M) 92 [some (xr 9), some (xi x1), some (xi x2), some (xi b0), some (xi b1), some (xi b2), some (xi b3), some (xi b4), none, none, none] [] M) (x3 : Int32) (x4 : Int32) (x5 : Int32) (x6 : Int32) (x7 : Int32) (s0 : Int32) (M : xM)  : AW SC l RX6 cX6_measure 11 none 2 kv (F_X6_measure_b131 fu x1 x2 k38 k92 x3 x4 x5 x6 x7 s0 M) 131 [some (xr 9), some (xi x1), some (xi x2), some (xi x3), some (xi x4), some (xi x5), some (xi x6), some (xi x7), none, none, none] [xi s0] M := by
  unfold F_X6_measure_b131
  refine A_istore dX6_measure_131 (Nat.le_of_ble_eq_true rfl) rfl ?_
  refine A_iload dX6_measure_133 rfl ?_
  refine A_iload dX6_measure_135 rfl ?_
  refine A_if_eq (tgt := 144) dX6_measure_137 (by decide) (fun _ => ?_) (fun _ => ?_)
  · refine A_iconst (v := (1 : Int32)) dX6_measure_144 oI_1 ?_
    exact (a_X6_measure_b145 (l := l) fu x1 x2 hk38 hk92 _ _ _ _ _ _ _ ).sub ⟨rfl, rfl, rfl, rfl, rfl, rfl, rfl, trivial⟩
  · refine A_iconst (v := (0 : Int32)) dX6_measure_140 oI_0 ?_
    refine A_goto (tgt := 145) dX6_measure_141 (by decide) ?_
    exact (a_X6_measure_b145 (l := l) fu x1 x2 hk38 hk92 _ _ _ _ _ _ _ ).sub ⟨rfl, rfl, rfl, rfl, rfl, rfl, rfl, trivial⟩
def F_X6_measure_b126 (fu : Nat)  (x1 : Int32) (x2 : Int32) (k38 : Int32 → Int32 → xM → Option (xM)) (k92 : Int32 → Int32 → Int32 → Int32 → Int32 → xM → Option (xM)) (x3 : Int32) (x4 : Int32) (x5 : Int32) (x6 : Int32) (x7 : Int32) (M : xM) : Option (xM) :=
  F_X6_measure_b131 fu x1 x2 k38 k92 x3 x4 x5 x6 x7 (1 : Int32) M
set_option maxRecDepth 100000 in
set_option maxHeartbeats 4000000 in
theorem a_X6_measure_b126 {l : Launch} (fu : Nat) (x1 : Int32) (x2 : Int32)  {k38 : Int32 → Int32 → xM → Option (xM)} {k92 : Int32 → Int32 → Int32 → Int32 → Int32 → xM → Option (xM)} (hk38 : ∀ (b0 : Int32) (b1 : Int32) (M : xM), AW SC l RX6 cX6_measure 11 none 2 kv (k38 b0 b1 M) 38 [some (xr 9), some (xi x1), some (xi x2), some (xi b0), some (xi b1), none, none, none, none, none, none] [] M) (hk92 : ∀ (b0 : Int32) (b1 : Int32) (b2 : Int32) (b3 : Int32) (b4 : Int32) (M : xM), AW SC l RX6 cX6_measure 11 none 2 kv (k92 b0 b1 b2 b3 b4 M) 92 [some (xr 9), some (xi x1), some (xi x2), some (xi b0), some (xi b1), some (xi b2), some (xi b3), some (xi b4), none, none, none] [] M) (x3 : Int32) (x4 : Int32) (x5 : Int32) (x6 : Int32) (x7 : Int32) (M : xM)  : AW SC l RX6 cX6_measure 11 none 2 kv (F_X6_measure_b126 fu x1 x2 k38 k92 x3 x4 x5 x6 x7 M) 126 [some (xr 9), some (xi x1), some (xi x2), some (xi x3), some (xi x4), some (xi x5), some (xi x6), some (xi x7), none, none, none] [] M := by
  unfold F_X6_measure_b126
  refine A_iconst (v := (1 : Int32)) dX6_measure_126 oI_1 ?_
  refine A_goto (tgt := 131) dX6_measure_127 (by decide) ?_
  exact (a_X6_measure_b131 (l := l) fu x1 x2 hk38 hk92 _ _ _ _ _ _ _ ).sub ⟨rfl, rfl, rfl, rfl, rfl, rfl, rfl, rfl, trivial⟩
def F_X6_measure_b92 (fu : Nat)  (x1 : Int32) (x2 : Int32) (k38 : Int32 → Int32 → xM → Option (xM)) : Nat → Int32 → Int32 → Int32 → Int32 → Int32 → xM → Option (xM)
  | 0, _, _, _, _, _, _ => none
  | n + 1, x3, x4, x5, x6, x7, M =>
    (if x3 < x7 then
    k38 x3 (x4 + (1 : Int32)) M
    else
    (if x5 = (46 : Int32) then
    F_X6_measure_b126 fu x1 x2 k38 (F_X6_measure_b92 fu x1 x2 k38 n) x3 x4 x5 x6 x7 M
    else
    (if x5 = (P_X1_at 46 64 (((x2 * (8 : Int32)) + x7) - (1 : Int32)) M) then
    F_X6_measure_b126 fu x1 x2 k38 (F_X6_measure_b92 fu x1 x2 k38 n) x3 x4 x5 x6 x7 M
    else
    F_X6_measure_b131 fu x1 x2 k38 (F_X6_measure_b92 fu x1 x2 k38 n) x3 x4 x5 x6 x7 (0 : Int32) M)))
set_option maxRecDepth 100000 in
set_option maxHeartbeats 4000000 in
theorem a_X6_measure_b92 {l : Launch} (fu : Nat) (x1 : Int32) (x2 : Int32)  {k38 : Int32 → Int32 → xM → Option (xM)} (hk38 : ∀ (b0 : Int32) (b1 : Int32) (M : xM), AW SC l RX6 cX6_measure 11 none 2 kv (k38 b0 b1 M) 38 [some (xr 9), some (xi x1), some (xi x2), some (xi b0), some (xi b1), none, none, none, none, none, none] [] M) : ∀ (n : Nat) (x3 : Int32) (x4 : Int32) (x5 : Int32) (x6 : Int32) (x7 : Int32) (M : xM), AW SC l RX6 cX6_measure 11 none 2 kv (F_X6_measure_b92 fu x1 x2 k38 n x3 x4 x5 x6 x7 M) 92 [some (xr 9), some (xi x1), some (xi x2), some (xi x3), some (xi x4), some (xi x5), some (xi x6), some (xi x7), none, none, none] [] M := by
  intro n
  induction n with
  | zero =>
    intro x3 x4 x5 x6 x7 M
    exact AW.none
  | succ n ih =>
    intro x3 x4 x5 x6 x7 M
    rw [F_X6_measure_b92]
    refine A_iload dX6_measure_92 rfl ?_
    refine A_iload_n dX6_measure_94 rfl ?_
    refine A_icmp_gt (tgt := 201) dX6_measure_95 (by decide) (fun _ => ?_) (fun _ => ?_)
    · refine A_iinc dX6_measure_201 rfl oI_1 (Nat.le_of_ble_eq_true rfl) rfl ?_
      refine A_goto (tgt := 38) dX6_measure_204 (by decide) ?_
      exact (hk38 _ _ _).sub ⟨rfl, rfl, rfl, rfl, rfl, trivial⟩
    · refine A_iload dX6_measure_98 rfl ?_
      refine A_bipush (v := (46 : Int32)) dX6_measure_100 oB_46 ?_
      refine A_icmp_eq (tgt := 126) dX6_measure_102 (by decide) (fun _ => ?_) (fun _ => ?_)
      · exact (a_X6_measure_b126 (l := l) fu x1 x2 hk38 ih _ _ _ _ _ _ ).sub ⟨rfl, rfl, rfl, rfl, rfl, rfl, rfl, rfl, trivial⟩
      · refine A_iload dX6_measure_105 rfl ?_
        refine A_aload_n dX6_measure_107 rfl ?_
        refine A_getr lf_X6_15 rfl rfl dX6_measure_108 ?_
        refine A_iload_n dX6_measure_111 rfl ?_
        refine A_bipush (v := (8 : Int32)) dX6_measure_112 oB_8 ?_
        refine A_imul dX6_measure_114 ?_
        refine A_iload dX6_measure_115 rfl ?_
        refine A_iadd dX6_measure_117 ?_
        refine A_iconst (v := (1 : Int32)) dX6_measure_118 oI_1 ?_
        refine A_isub dX6_measure_119 ?_
        refine A_callSp (a_X1_at (S := SC) (l := l) _ _ _ _ rfl) lc_X6_47 rfl (by decide) (Nat.le_of_ble_eq_true rfl) rfl dX6_measure_120 ?_
        refine A_icmp_ne (tgt := 130) dX6_measure_123 (by decide) (fun _ => ?_) (fun _ => ?_)
        · exact (a_X6_measure_b126 (l := l) fu x1 x2 hk38 ih _ _ _ _ _ _ ).sub ⟨rfl, rfl, rfl, rfl, rfl, rfl, rfl, rfl, trivial⟩
        · refine A_iconst (v := (0 : Int32)) dX6_measure_130 oI_0 ?_
          exact (a_X6_measure_b131 (l := l) fu x1 x2 hk38 ih _ _ _ _ _ _ _ ).sub ⟨rfl, rfl, rfl, rfl, rfl, rfl, rfl, rfl, trivial⟩
def F_X6_measure_b38 (fu : Nat)  (x1 : Int32) (x2 : Int32)  : Nat → Int32 → Int32 → xM → Option (xM)
  | 0, _, _, _ => none
  | n + 1, x3, x4, M =>
    (if (P_X1_at 49 120 x1 M) < x4 then
    (F_X1_put 50 960 ((x1 * (8 : Int32)) + x2) (P_X1_at 51 9 x3 M) M).bind fun q1 =>
    some q1
    else
    (F_X1_put 51 9 (0 : Int32) x4 M).bind fun q2 =>
    F_X6_measure_b92 fu x1 x2 (F_X6_measure_b38 fu x1 x2 n) fu x3 x4 (P_X1_at 48 960 (((x1 * (8 : Int32)) + x4) - (1 : Int32)) M) (P_X1_at 51 9 (0 : Int32) M) (1 : Int32) q2)
set_option maxRecDepth 100000 in
set_option maxHeartbeats 4000000 in
theorem a_X6_measure_b38 {l : Launch} (fu : Nat) (x1 : Int32) (x2 : Int32)    : ∀ (n : Nat) (x3 : Int32) (x4 : Int32) (M : xM), AW SC l RX6 cX6_measure 11 none 2 kv (F_X6_measure_b38 fu x1 x2 n x3 x4 M) 38 [some (xr 9), some (xi x1), some (xi x2), some (xi x3), some (xi x4), none, none, none, none, none, none] [] M := by
  intro n
  induction n with
  | zero =>
    intro x3 x4 M
    exact AW.none
  | succ n ih =>
    intro x3 x4 M
    rw [F_X6_measure_b38]
    refine A_iload dX6_measure_38 rfl ?_
    refine A_aload_n dX6_measure_40 rfl ?_
    refine A_getr lf_X6_25 rfl rfl dX6_measure_41 ?_
    refine A_iload_n dX6_measure_44 rfl ?_
    refine A_callSp (a_X1_at (S := SC) (l := l) _ _ _ _ rfl) lc_X6_47 rfl (by decide) (Nat.le_of_ble_eq_true rfl) rfl dX6_measure_45 ?_
    refine A_icmp_gt (tgt := 207) dX6_measure_48 (by decide) (fun _ => ?_) (fun _ => ?_)
    · refine A_aload_n dX6_measure_207 rfl ?_
      refine A_getr lf_X6_28 rfl rfl dX6_measure_208 ?_
      refine A_iload_n dX6_measure_211 rfl ?_
      refine A_bipush (v := (8 : Int32)) dX6_measure_212 oB_8 ?_
      refine A_imul dX6_measure_214 ?_
      refine A_iload_n dX6_measure_215 rfl ?_
      refine A_iadd dX6_measure_216 ?_
      refine A_aload_n dX6_measure_217 rfl ?_
      refine A_getr lf_X6_31 rfl rfl dX6_measure_218 ?_
      refine A_iload_n dX6_measure_221 rfl ?_
      refine A_callSp (a_X1_at (S := SC) (l := l) _ _ _ _ rfl) lc_X6_47 rfl (by decide) (Nat.le_of_ble_eq_true rfl) rfl dX6_measure_222 ?_
      refine A_callSv (a_X1_put (S := SC) (l := l) _ _ _ _ _ rfl) lc_X6_71 rfl (by decide) (Nat.le_of_ble_eq_true rfl) rfl dX6_measure_225 (fun q1 hq1 => ?_)
      exact A_vret rfl dX6_measure_228
    · refine A_aload_n dX6_measure_51 rfl ?_
      refine A_getr lf_X6_22 rfl rfl dX6_measure_52 ?_
      refine A_iload_n dX6_measure_55 rfl ?_
      refine A_bipush (v := (8 : Int32)) dX6_measure_56 oB_8 ?_
      refine A_imul dX6_measure_58 ?_
      refine A_iload dX6_measure_59 rfl ?_
      refine A_iadd dX6_measure_61 ?_
      refine A_iconst (v := (1 : Int32)) dX6_measure_62 oI_1 ?_
      refine A_isub dX6_measure_63 ?_
      refine A_callSp (a_X1_at (S := SC) (l := l) _ _ _ _ rfl) lc_X6_47 rfl (by decide) (Nat.le_of_ble_eq_true rfl) rfl dX6_measure_64 ?_
      refine A_istore dX6_measure_67 (Nat.le_of_ble_eq_true rfl) rfl ?_
      refine A_aload_n dX6_measure_69 rfl ?_
      refine A_getr lf_X6_31 rfl rfl dX6_measure_70 ?_
      refine A_iconst (v := (0 : Int32)) dX6_measure_73 oI_0 ?_
      refine A_callSp (a_X1_at (S := SC) (l := l) _ _ _ _ rfl) lc_X6_47 rfl (by decide) (Nat.le_of_ble_eq_true rfl) rfl dX6_measure_74 ?_
      refine A_istore dX6_measure_77 (Nat.le_of_ble_eq_true rfl) rfl ?_
      refine A_aload_n dX6_measure_79 rfl ?_
      refine A_getr lf_X6_31 rfl rfl dX6_measure_80 ?_
      refine A_iconst (v := (0 : Int32)) dX6_measure_83 oI_0 ?_
      refine A_iload dX6_measure_84 rfl ?_
      refine A_callSv (a_X1_put (S := SC) (l := l) _ _ _ _ _ rfl) lc_X6_71 rfl (by decide) (Nat.le_of_ble_eq_true rfl) rfl dX6_measure_86 (fun q2 hq2 => ?_)
      refine A_iconst (v := (1 : Int32)) dX6_measure_89 oI_1 ?_
      refine A_istore dX6_measure_90 (Nat.le_of_ble_eq_true rfl) rfl ?_
      exact (a_X6_measure_b92 (l := l) fu x1 x2 ih fu _ _ _ _ _ _).sub ⟨rfl, rfl, rfl, rfl, rfl, rfl, rfl, rfl, trivial⟩
def F_X6_measure_b12 (fu : Nat)  (x1 : Int32) (x2 : Int32)  : Nat → Int32 → Int32 → xM → Option (xM)
  | 0, _, _, _ => none
  | n + 1, x3, x4, M =>
    (if x3 < x4 then
    F_X6_measure_b38 fu x1 x2 fu x3 (1 : Int32) M
    else
    (F_X1_put 51 9 x4 x4 M).bind fun q1 =>
    F_X6_measure_b12 fu x1 x2 n x3 (x4 + (1 : Int32)) q1)
set_option maxRecDepth 100000 in
set_option maxHeartbeats 4000000 in
theorem a_X6_measure_b12 {l : Launch} (fu : Nat) (x1 : Int32) (x2 : Int32)    : ∀ (n : Nat) (x3 : Int32) (x4 : Int32) (M : xM), AW SC l RX6 cX6_measure 11 none 2 kv (F_X6_measure_b12 fu x1 x2 n x3 x4 M) 12 [some (xr 9), some (xi x1), some (xi x2), some (xi x3), some (xi x4), none, none, none, none, none, none] [] M := by
  intro n
  induction n with
  | zero =>
    intro x3 x4 M
    exact AW.none
  | succ n ih =>
    intro x3 x4 M
    rw [F_X6_measure_b12]
    refine A_iload dX6_measure_12 rfl ?_
    refine A_iload_n dX6_measure_14 rfl ?_
    refine A_icmp_gt (tgt := 35) dX6_measure_15 (by decide) (fun _ => ?_) (fun _ => ?_)
    · refine A_iconst (v := (1 : Int32)) dX6_measure_35 oI_1 ?_
      refine A_istore dX6_measure_36 (Nat.le_of_ble_eq_true rfl) rfl ?_
      exact (a_X6_measure_b38 (l := l) fu x1 x2  fu _ _ _).sub ⟨rfl, rfl, rfl, rfl, rfl, trivial⟩
    · refine A_aload_n dX6_measure_18 rfl ?_
      refine A_getr lf_X6_31 rfl rfl dX6_measure_19 ?_
      refine A_iload dX6_measure_22 rfl ?_
      refine A_iload dX6_measure_24 rfl ?_
      refine A_callSv (a_X1_put (S := SC) (l := l) _ _ _ _ _ rfl) lc_X6_71 rfl (by decide) (Nat.le_of_ble_eq_true rfl) rfl dX6_measure_26 (fun q1 hq1 => ?_)
      refine A_iinc dX6_measure_29 rfl oI_1 (Nat.le_of_ble_eq_true rfl) rfl ?_
      refine A_goto (tgt := 12) dX6_measure_32 (by decide) ?_
      exact (ih _ _ _).sub ⟨rfl, rfl, rfl, rfl, rfl, trivial⟩
def F_X6_measure (fu : Nat)  (x1 : Int32) (x2 : Int32)   (M : xM) : Option (xM) :=
  F_X6_measure_b12 fu x1 x2 fu (P_X1_at 47 8 x2 M) (0 : Int32) M
set_option maxRecDepth 100000 in
set_option maxHeartbeats 4000000 in
theorem w_X6_measure {l : Launch} (fu : Nat) (x1 : Int32) (x2 : Int32)     (M : xM)  : AW SC l RX6 cX6_measure 11 none 2 kv (F_X6_measure fu x1 x2  M) 0 [some (xr 9), some (xi x1), some (xi x2), none, none, none, none, none, none, none, none] [] M := by
  unfold F_X6_measure
  refine A_aload_n dX6_measure_0 rfl ?_
  refine A_getr lf_X6_19 rfl rfl dX6_measure_1 ?_
  refine A_iload_n dX6_measure_4 rfl ?_
  refine A_callSp (a_X1_at (S := SC) (l := l) _ _ _ _ rfl) lc_X6_47 rfl (by decide) (Nat.le_of_ble_eq_true rfl) rfl dX6_measure_5 ?_
  refine A_istore_n dX6_measure_8 (Nat.le_of_ble_eq_true rfl) rfl ?_
  refine A_iconst (v := (0 : Int32)) dX6_measure_9 oI_0 ?_
  refine A_istore dX6_measure_10 (Nat.le_of_ble_eq_true rfl) rfl ?_
  exact (a_X6_measure_b12 (l := l) fu x1 x2  fu _ _ _).sub ⟨rfl, rfl, rfl, rfl, rfl, trivial⟩
theorem a_X6_measure {l : Launch} (fu : Nat)  (x1 : Int32) (x2 : Int32) (M : xM)  : AM SC l yX6_measure cX6_measure 11 none 2 kv [xr 9, xi x1, xi x2] M (F_X6_measure fu x1 x2  M) :=
  AM.of (L0 := [some (xr 9), some (xi x1), some (xi x2), none, none, none, none, none, none, none, none]) (w_X6_measure (l := l) fu x1 x2  M ) (by decide +kernel) rfl (Nat.le_of_ble_eq_true rfl) ⟨rfl, rfl, rfl, trivial⟩
def F_X6_addName_b69 (fu : Nat)   (k21 : Int32 → xM → Option (Int32 × xM)) (x2 : Int32) (M : xM) : Option (Int32 × xM) :=
  k21 (x2 + (1 : Int32)) M
set_option maxRecDepth 100000 in
set_option maxHeartbeats 4000000 in
theorem a_X6_addName_b69 {l : Launch} (fu : Nat)   {k21 : Int32 → xM → Option (Int32 × xM)} (hk21 : ∀ (b0 : Int32) (M : xM), AW SC l RX6 cX6_addName 3 (some .int) 3 ki (k21 b0 M) 21 [some (xr 9), some (xr 2), some (xi b0)] [] M) (x2 : Int32) (M : xM)  : AW SC l RX6 cX6_addName 3 (some .int) 3 ki (F_X6_addName_b69 fu k21 x2 M) 69 [some (xr 9), some (xr 2), some (xi x2)] [] M := by
  unfold F_X6_addName_b69
  refine A_iinc dX6_addName_69 rfl oI_1 (Nat.le_of_ble_eq_true rfl) rfl ?_
  refine A_goto (tgt := 21) dX6_addName_72 (by decide) ?_
  exact (hk21 _ _).sub ⟨rfl, rfl, rfl, trivial⟩
def F_X6_addName_b112 (fu : Nat)    : Nat → Int32 → xM → Option (Int32 × xM)
  | 0, _, _ => none
  | n + 1, x2, M =>
    (if (120 : Int32) ≤ x2 then
    some ((M 9 0), (xset M 9 0 ((M 9 0) + (1 : Int32))))
    else
    (F_X6_measure fu x2 (M 9 0) M).bind fun q1 =>
    F_X6_addName_b112 fu n (x2 + (1 : Int32)) q1)
set_option maxRecDepth 100000 in
set_option maxHeartbeats 4000000 in
theorem a_X6_addName_b112 {l : Launch} (fu : Nat)     : ∀ (n : Nat) (x2 : Int32) (M : xM), AW SC l RX6 cX6_addName 3 (some .int) 3 ki (F_X6_addName_b112 fu n x2 M) 112 [some (xr 9), none, some (xi x2)] [] M := by
  intro n
  induction n with
  | zero =>
    intro x2 M
    exact AW.none
  | succ n ih =>
    intro x2 M
    rw [F_X6_addName_b112]
    refine A_iload_n dX6_addName_112 rfl ?_
    refine A_bipush (v := (120 : Int32)) dX6_addName_113 oB_120 ?_
    refine A_icmp_ge (tgt := 133) dX6_addName_115 (by decide) (fun _ => ?_) (fun _ => ?_)
    · refine A_aload_n dX6_addName_133 rfl ?_
      refine A_dup dX6_addName_134 rfl ?_
      refine A_geti lf_X6_34 rfl rfl dX6_addName_135 ?_
      refine A_dup_x1 dX6_addName_138 rfl rfl ?_
      refine A_iconst (v := (1 : Int32)) dX6_addName_139 oI_1 ?_
      refine A_iadd dX6_addName_140 ?_
      refine A_puti lf_X6_34 rfl rfl dX6_addName_141 ?_
      exact A_iret rfl dX6_addName_144
    · refine A_aload_n dX6_addName_118 rfl ?_
      refine A_iload_n dX6_addName_119 rfl ?_
      refine A_aload_n dX6_addName_120 rfl ?_
      refine A_geti lf_X6_34 rfl rfl dX6_addName_121 ?_
      refine A_callVv (a_X6_measure (l := l) fu _ _ _ ) lc_X6_75 rfl rfl (by decide) (Nat.le_of_ble_eq_true rfl) rfl dX6_addName_124 (fun q1 hq1 => ?_)
      refine A_iinc dX6_addName_127 rfl oI_1 (Nat.le_of_ble_eq_true rfl) rfl ?_
      refine A_goto (tgt := 112) dX6_addName_130 (by decide) ?_
      exact (ih _ _).sub ⟨rfl, rfl, trivial⟩
def F_X6_addName_b21 (fu : Nat)    : Nat → Int32 → xM → Option (Int32 × xM)
  | 0, _, _ => none
  | n + 1, x2, M =>
    (if (M 9 0) ≤ x2 then
    (F_X9_copyTo fu 46 64 ((M 9 0) * (8 : Int32)) M).bind fun q1 =>
    (F_X1_put 47 8 (q1 9 0) (q1 2 1) q1).bind fun q2 =>
    F_X6_addName_b112 fu fu (0 : Int32) (xset q2 2 1 (0 : Int32))
    else
    (F_X6_isSame fu 17 120 (0 : Int32) 46 64 (x2 * (8 : Int32)) (M 2 1) M).bind fun q3 =>
    (if q3.1 = 0 then
    F_X6_addName_b69 fu (F_X6_addName_b21 fu n) x2 q3.2
    else
    (if (P_X1_at 47 8 x2 q3.2) = (q3.2 2 1) then
    some ((-1 : Int32), q3.2)
    else
    F_X6_addName_b69 fu (F_X6_addName_b21 fu n) x2 q3.2)))
set_option maxRecDepth 100000 in
set_option maxHeartbeats 4000000 in
theorem a_X6_addName_b21 {l : Launch} (fu : Nat)     : ∀ (n : Nat) (x2 : Int32) (M : xM), AW SC l RX6 cX6_addName 3 (some .int) 3 ki (F_X6_addName_b21 fu n x2 M) 21 [some (xr 9), some (xr 2), some (xi x2)] [] M := by
  intro n
  induction n with
  | zero =>
    intro x2 M
    exact AW.none
  | succ n ih =>
    intro x2 M
    rw [F_X6_addName_b21]
    refine A_iload_n dX6_addName_21 rfl ?_
    refine A_aload_n dX6_addName_22 rfl ?_
    refine A_geti lf_X6_34 rfl rfl dX6_addName_23 ?_
    refine A_icmp_ge (tgt := 75) dX6_addName_26 (by decide) (fun _ => ?_) (fun _ => ?_)
    · refine A_aload_n dX6_addName_75 rfl ?_
      refine A_aload_n dX6_addName_76 rfl ?_
      refine A_getr lf_X6_15 rfl rfl dX6_addName_77 ?_
      refine A_aload_n dX6_addName_80 rfl ?_
      refine A_geti lf_X6_34 rfl rfl dX6_addName_81 ?_
      refine A_bipush (v := (8 : Int32)) dX6_addName_84 oB_8 ?_
      refine A_imul dX6_addName_86 ?_
      refine A_callVv (a_X9_copyTo (l := l) fu _ _ _ _ rfl) lc_X6_67 rfl rfl (by decide) (Nat.le_of_ble_eq_true rfl) rfl dX6_addName_87 (fun q1 hq1 => ?_)
      refine A_aload_n dX6_addName_90 rfl ?_
      refine A_getr lf_X6_19 rfl rfl dX6_addName_91 ?_
      refine A_aload_n dX6_addName_94 rfl ?_
      refine A_geti lf_X6_34 rfl rfl dX6_addName_95 ?_
      refine A_aload_n dX6_addName_98 rfl ?_
      refine A_geti lf_X6_60 rfl rfl dX6_addName_99 ?_
      refine A_callSv (a_X1_put (S := SC) (l := l) _ _ _ _ _ rfl) lc_X6_71 rfl (by decide) (Nat.le_of_ble_eq_true rfl) rfl dX6_addName_102 (fun q2 hq2 => ?_)
      refine A_aload_n dX6_addName_105 rfl ?_
      refine A_iconst (v := (0 : Int32)) dX6_addName_106 oI_0 ?_
      refine A_puti lf_X6_60 rfl rfl dX6_addName_107 ?_
      refine A_iconst (v := (0 : Int32)) dX6_addName_110 oI_0 ?_
      refine A_istore_n dX6_addName_111 (Nat.le_of_ble_eq_true rfl) rfl ?_
      exact (a_X6_addName_b112 (l := l) fu  fu _ _).sub ⟨rfl, rfl, trivial⟩
    · refine A_aload_n dX6_addName_29 rfl ?_
      refine A_getr lf_X6_57 rfl rfl dX6_addName_30 ?_
      refine A_iconst (v := (0 : Int32)) dX6_addName_33 oI_0 ?_
      refine A_aload_n dX6_addName_34 rfl ?_
      refine A_getr lf_X6_15 rfl rfl dX6_addName_35 ?_
      refine A_iload_n dX6_addName_38 rfl ?_
      refine A_bipush (v := (8 : Int32)) dX6_addName_39 oB_8 ?_
      refine A_imul dX6_addName_41 ?_
      refine A_aload_n dX6_addName_42 rfl ?_
      refine A_geti lf_X6_60 rfl rfl dX6_addName_43 ?_
      refine A_callSi (a_X6_isSame (l := l) fu _ _ _ _ _ _ _ _ rfl rfl) lc_X6_63 rfl (by decide) (Nat.le_of_ble_eq_true rfl) rfl dX6_addName_46 (fun q3 Mq3 hq3 => ?_)
      refine A_if_eq (tgt := 69) dX6_addName_49 (by decide) (fun _ => ?_) (fun _ => ?_)
      · exact (a_X6_addName_b69 (l := l) fu ih _ _ ).sub ⟨rfl, rfl, rfl, trivial⟩
      · refine A_aload_n dX6_addName_52 rfl ?_
        refine A_getr lf_X6_19 rfl rfl dX6_addName_53 ?_
        refine A_iload_n dX6_addName_56 rfl ?_
        refine A_callSp (a_X1_at (S := SC) (l := l) _ _ _ _ rfl) lc_X6_47 rfl (by decide) (Nat.le_of_ble_eq_true rfl) rfl dX6_addName_57 ?_
        refine A_aload_n dX6_addName_60 rfl ?_
        refine A_geti lf_X6_60 rfl rfl dX6_addName_61 ?_
        refine A_icmp_ne (tgt := 69) dX6_addName_64 (by decide) (fun _ => ?_) (fun _ => ?_)
        · refine A_iconst (v := (-1 : Int32)) dX6_addName_67 oI_m1 ?_
          exact A_iret rfl dX6_addName_68
        · exact (a_X6_addName_b69 (l := l) fu ih _ _ ).sub ⟨rfl, rfl, rfl, trivial⟩
def F_X6_addName (fu : Nat)     (M : xM) : Option (Int32 × xM) :=
  (if (8 : Int32) ≤ (M 9 0) then
  some ((-1 : Int32), M)
  else
  (F_X9_isWord fu (0 : Int32) M).bind fun q1 =>
  (if q1.1 = 0 then
  some ((-1 : Int32), q1.2)
  else
  F_X6_addName_b21 fu fu (0 : Int32) q1.2))
set_option maxRecDepth 100000 in
set_option maxHeartbeats 4000000 in
theorem w_X6_addName {l : Launch} (fu : Nat)      (M : xM)  : AW SC l RX6 cX6_addName 3 (some .int) 3 ki (F_X6_addName fu  M) 0 [some (xr 9), some (xr 2), none] [] M := by
  unfold F_X6_addName
  refine A_aload_n dX6_addName_0 rfl ?_
  refine A_geti lf_X6_34 rfl rfl dX6_addName_1 ?_
  refine A_bipush (v := (8 : Int32)) dX6_addName_4 oB_8 ?_
  refine A_icmp_ge (tgt := 17) dX6_addName_6 (by decide) (fun _ => ?_) (fun _ => ?_)
  · refine A_iconst (v := (-1 : Int32)) dX6_addName_17 oI_m1 ?_
    exact A_iret rfl dX6_addName_18
  · refine A_aload_n dX6_addName_9 rfl ?_
    refine A_iconst (v := (0 : Int32)) dX6_addName_10 oI_0 ?_
    refine A_callVi (a_X9_isWord (l := l) fu _ _ ) lc_X6_51 rfl rfl (by decide) (Nat.le_of_ble_eq_true rfl) rfl dX6_addName_11 (fun q1 Mq1 hq1 => ?_)
    refine A_if_ne (tgt := 19) dX6_addName_14 (by decide) (fun _ => ?_) (fun _ => ?_)
    · refine A_iconst (v := (-1 : Int32)) dX6_addName_17 oI_m1 ?_
      exact A_iret rfl dX6_addName_18
    · refine A_iconst (v := (0 : Int32)) dX6_addName_19 oI_0 ?_
      refine A_istore_n dX6_addName_20 (Nat.le_of_ble_eq_true rfl) rfl ?_
      exact (a_X6_addName_b21 (l := l) fu  fu _ _).sub ⟨rfl, rfl, rfl, trivial⟩
theorem a_X6_addName {l : Launch} (fu : Nat)   (M : xM)  : AM SC l yX6_addName cX6_addName 3 (some .int) 3 ki [xr 9, xr 2] M (F_X6_addName fu   M) :=
  AM.of (L0 := [some (xr 9), some (xr 2), none]) (w_X6_addName (l := l) fu  M ) (by decide +kernel) rfl (Nat.le_of_ble_eq_true rfl) ⟨rfl, rfl, trivial⟩
def F_X6_setReading_b82 (fu : Nat)  (x1 : Int32) (x2 : Int32)  : Nat → Int32 → Int32 → xM → Option (Int32 × xM)
  | 0, _, _, _ => none
  | n + 1, x5, x6, M =>
    (if (M 9 0) ≤ x6 then
    some ((1 : Int32), M)
    else
    (F_X6_measure fu x5 x6 M).bind fun q1 =>
    F_X6_setReading_b82 fu x1 x2 n x5 (x6 + (1 : Int32)) q1)
set_option maxRecDepth 100000 in
set_option maxHeartbeats 4000000 in
theorem a_X6_setReading_b82 {l : Launch} (fu : Nat) (x1 : Int32) (x2 : Int32)    : ∀ (n : Nat) (x5 : Int32) (x6 : Int32) (M : xM), AW SC l RX6 cX6_setReading 7 (some .boolean) 3 ki (F_X6_setReading_b82 fu x1 x2 n x5 x6 M) 82 [some (xr 9), none, none, none, none, some (xi x5), some (xi x6)] [] M := by
  intro n
  induction n with
  | zero =>
    intro x5 x6 M
    exact AW.none
  | succ n ih =>
    intro x5 x6 M
    rw [F_X6_setReading_b82]
    refine A_iload dX6_setReading_82 rfl ?_
    refine A_aload_n dX6_setReading_84 rfl ?_
    refine A_geti lf_X6_34 rfl rfl dX6_setReading_85 ?_
    refine A_icmp_ge (tgt := 105) dX6_setReading_88 (by decide) (fun _ => ?_) (fun _ => ?_)
    · refine A_iconst (v := (1 : Int32)) dX6_setReading_105 oI_1 ?_
      exact A_zret' rfl (Or.inr rfl) dX6_setReading_106
    · refine A_aload_n dX6_setReading_91 rfl ?_
      refine A_iload dX6_setReading_92 rfl ?_
      refine A_iload dX6_setReading_94 rfl ?_
      refine A_callVv (a_X6_measure (l := l) fu _ _ _ ) lc_X6_75 rfl rfl (by decide) (Nat.le_of_ble_eq_true rfl) rfl dX6_setReading_96 (fun q1 hq1 => ?_)
      refine A_iinc dX6_setReading_99 rfl oI_1 (Nat.le_of_ble_eq_true rfl) rfl ?_
      refine A_goto (tgt := 82) dX6_setReading_102 (by decide) ?_
      exact (ih _ _ _).sub ⟨rfl, rfl, rfl, trivial⟩
def F_X6_setReading_b24 (fu : Nat)  (x1 : Int32) (x2 : Int32)  (s0 : Int32) (M : xM) : Option (Int32 × xM) :=
  (if s0 = 0 then
  some ((0 : Int32), M)
  else
  (F_X9_isWord fu (1 : Int32) M).bind fun q1 =>
  (if q1.1 = 0 then
  some ((0 : Int32), q1.2)
  else
  (F_X9_copyTo fu 48 960 ((P_X6_reading x1 x2 q1.2) * (8 : Int32)) q1.2).bind fun q2 =>
  (F_X1_put 49 120 (P_X6_reading x1 x2 q1.2) (q2 2 1) q2).bind fun q3 =>
  F_X6_setReading_b82 fu x1 x2 fu (P_X6_reading x1 x2 q1.2) (0 : Int32) (xset q3 2 1 (0 : Int32))))
set_option maxRecDepth 100000 in
set_option maxHeartbeats 4000000 in
theorem a_X6_setReading_b24 {l : Launch} (fu : Nat) (x1 : Int32) (x2 : Int32)    (s0 : Int32) (M : xM)  : AW SC l RX6 cX6_setReading 7 (some .boolean) 3 ki (F_X6_setReading_b24 fu x1 x2 s0 M) 24 [some (xr 9), some (xi x1), some (xi x2), some (xr 2), none, none, none] [xi s0] M := by
  unfold F_X6_setReading_b24
  refine A_istore dX6_setReading_24 (Nat.le_of_ble_eq_true rfl) rfl ?_
  refine A_iload dX6_setReading_26 rfl ?_
  refine A_if_eq (tgt := 39) dX6_setReading_28 (by decide) (fun _ => ?_) (fun _ => ?_)
  · refine A_iconst (v := (0 : Int32)) dX6_setReading_39 oI_0 ?_
    exact A_zret' rfl (Or.inl rfl) dX6_setReading_40
  · refine A_aload_n dX6_setReading_31 rfl ?_
    refine A_iconst (v := (1 : Int32)) dX6_setReading_32 oI_1 ?_
    refine A_callVi (a_X9_isWord (l := l) fu _ _ ) lc_X6_51 rfl rfl (by decide) (Nat.le_of_ble_eq_true rfl) rfl dX6_setReading_33 (fun q1 Mq1 hq1 => ?_)
    refine A_if_ne (tgt := 41) dX6_setReading_36 (by decide) (fun _ => ?_) (fun _ => ?_)
    · refine A_iconst (v := (0 : Int32)) dX6_setReading_39 oI_0 ?_
      exact A_zret' rfl (Or.inl rfl) dX6_setReading_40
    · refine A_iload_n dX6_setReading_41 rfl ?_
      refine A_iload_n dX6_setReading_42 rfl ?_
      refine A_callSp (a_X6_reading (l := l) _ _ _ ) lc_X6_43 rfl (by decide) (Nat.le_of_ble_eq_true rfl) rfl dX6_setReading_43 ?_
      refine A_istore dX6_setReading_46 (Nat.le_of_ble_eq_true rfl) rfl ?_
      refine A_aload_n dX6_setReading_48 rfl ?_
      refine A_aload_n dX6_setReading_49 rfl ?_
      refine A_getr lf_X6_22 rfl rfl dX6_setReading_50 ?_
      refine A_iload dX6_setReading_53 rfl ?_
      refine A_bipush (v := (8 : Int32)) dX6_setReading_55 oB_8 ?_
      refine A_imul dX6_setReading_57 ?_
      refine A_callVv (a_X9_copyTo (l := l) fu _ _ _ _ rfl) lc_X6_67 rfl rfl (by decide) (Nat.le_of_ble_eq_true rfl) rfl dX6_setReading_58 (fun q2 hq2 => ?_)
      refine A_aload_n dX6_setReading_61 rfl ?_
      refine A_getr lf_X6_25 rfl rfl dX6_setReading_62 ?_
      refine A_iload dX6_setReading_65 rfl ?_
      refine A_aload_n dX6_setReading_67 rfl ?_
      refine A_geti lf_X6_60 rfl rfl dX6_setReading_68 ?_
      refine A_callSv (a_X1_put (S := SC) (l := l) _ _ _ _ _ rfl) lc_X6_71 rfl (by decide) (Nat.le_of_ble_eq_true rfl) rfl dX6_setReading_71 (fun q3 hq3 => ?_)
      refine A_aload_n dX6_setReading_74 rfl ?_
      refine A_iconst (v := (0 : Int32)) dX6_setReading_75 oI_0 ?_
      refine A_puti lf_X6_60 rfl rfl dX6_setReading_76 ?_
      refine A_iconst (v := (0 : Int32)) dX6_setReading_79 oI_0 ?_
      refine A_istore dX6_setReading_80 (Nat.le_of_ble_eq_true rfl) rfl ?_
      exact (a_X6_setReading_b82 (l := l) fu x1 x2  fu _ _ _).sub ⟨rfl, rfl, rfl, trivial⟩
def F_X6_setReading_b23 (fu : Nat)  (x1 : Int32) (x2 : Int32)   (M : xM) : Option (Int32 × xM) :=
  F_X6_setReading_b24 fu x1 x2 (0 : Int32) M
set_option maxRecDepth 100000 in
set_option maxHeartbeats 4000000 in
theorem a_X6_setReading_b23 {l : Launch} (fu : Nat) (x1 : Int32) (x2 : Int32)     (M : xM)  : AW SC l RX6 cX6_setReading 7 (some .boolean) 3 ki (F_X6_setReading_b23 fu x1 x2  M) 23 [some (xr 9), some (xi x1), some (xi x2), some (xr 2), none, none, none] [] M := by
  unfold F_X6_setReading_b23
  refine A_iconst (v := (0 : Int32)) dX6_setReading_23 oI_0 ?_
  exact (a_X6_setReading_b24 (l := l) fu x1 x2  _ _ ).sub ⟨rfl, rfl, rfl, rfl, trivial⟩
def F_X6_setReading (fu : Nat)  (x1 : Int32) (x2 : Int32)   (M : xM) : Option (Int32 × xM) :=
  (if (P_X1_within x1 (0 : Int32) (3 : Int32) M) = 0 then
  F_X6_setReading_b23 fu x1 x2  M
  else
  (if (P_X1_within x2 (0 : Int32) (29 : Int32) M) = 0 then
  F_X6_setReading_b23 fu x1 x2  M
  else
  F_X6_setReading_b24 fu x1 x2 (1 : Int32) M))
set_option maxRecDepth 100000 in
set_option maxHeartbeats 4000000 in
theorem w_X6_setReading {l : Launch} (fu : Nat) (x1 : Int32) (x2 : Int32)     (M : xM)  : AW SC l RX6 cX6_setReading 7 (some .boolean) 3 ki (F_X6_setReading fu x1 x2  M) 0 [some (xr 9), some (xi x1), some (xi x2), some (xr 2), none, none, none] [] M := by
  unfold F_X6_setReading
  refine A_iload_n dX6_setReading_0 rfl ?_
  refine A_iconst (v := (0 : Int32)) dX6_setReading_1 oI_0 ?_
  refine A_iconst (v := (3 : Int32)) dX6_setReading_2 oI_3 ?_
  refine A_callSp (a_X1_within (S := SC) (l := l) _ _ _ _ ) lc_X6_37 rfl (by decide) (Nat.le_of_ble_eq_true rfl) rfl dX6_setReading_3 ?_
  refine A_if_eq (tgt := 23) dX6_setReading_6 (by decide) (fun _ => ?_) (fun _ => ?_)
  · exact (a_X6_setReading_b23 (l := l) fu x1 x2   _ ).sub ⟨rfl, rfl, rfl, rfl, trivial⟩
  · refine A_iload_n dX6_setReading_9 rfl ?_
    refine A_iconst (v := (0 : Int32)) dX6_setReading_10 oI_0 ?_
    refine A_bipush (v := (29 : Int32)) dX6_setReading_11 oB_29 ?_
    refine A_callSp (a_X1_within (S := SC) (l := l) _ _ _ _ ) lc_X6_37 rfl (by decide) (Nat.le_of_ble_eq_true rfl) rfl dX6_setReading_13 ?_
    refine A_if_eq (tgt := 23) dX6_setReading_16 (by decide) (fun _ => ?_) (fun _ => ?_)
    · exact (a_X6_setReading_b23 (l := l) fu x1 x2   _ ).sub ⟨rfl, rfl, rfl, rfl, trivial⟩
    · refine A_iconst (v := (1 : Int32)) dX6_setReading_19 oI_1 ?_
      refine A_goto (tgt := 24) dX6_setReading_20 (by decide) ?_
      exact (a_X6_setReading_b24 (l := l) fu x1 x2  _ _ ).sub ⟨rfl, rfl, rfl, rfl, trivial⟩
theorem a_X6_setReading {l : Launch} (fu : Nat)  (x1 : Int32) (x2 : Int32) (M : xM)  : AM SC l yX6_setReading cX6_setReading 7 (some .boolean) 3 ki [xr 9, xi x1, xi x2, xr 2] M (F_X6_setReading fu x1 x2  M) :=
  AM.of (L0 := [some (xr 9), some (xi x1), some (xi x2), some (xr 2), none, none, none]) (w_X6_setReading (l := l) fu x1 x2  M ) (by decide +kernel) rfl (Nat.le_of_ble_eq_true rfl) ⟨rfl, rfl, rfl, rfl, trivial⟩
def P_X6_farFrom  (x1 : Int32) (x2 : Int32) (x3 : Int32)   (M : xM) : Int32 :=
  (P_X1_at 50 960 (((P_X6_reading x1 x2 M) * (8 : Int32)) + x3) M)
set_option maxRecDepth 100000 in
set_option maxHeartbeats 4000000 in
theorem w_X6_farFrom {l : Launch} (x1 : Int32) (x2 : Int32) (x3 : Int32)     (M : xM)  : AW SC l RX6 cX6_farFrom 4 (some .int) 1 ki (some (P_X6_farFrom x1 x2 x3  M, M)) 0 [some (xr 9), some (xi x1), some (xi x2), some (xi x3)] [] M := by
  unfold P_X6_farFrom
  refine A_aload_n dX6_farFrom_0 rfl ?_
  refine A_getr lf_X6_28 rfl rfl dX6_farFrom_1 ?_
  refine A_iload_n dX6_farFrom_4 rfl ?_
  refine A_iload_n dX6_farFrom_5 rfl ?_
  refine A_callSp (a_X6_reading (l := l) _ _ _ ) lc_X6_43 rfl (by decide) (Nat.le_of_ble_eq_true rfl) rfl dX6_farFrom_6 ?_
  refine A_bipush (v := (8 : Int32)) dX6_farFrom_9 oB_8 ?_
  refine A_imul dX6_farFrom_11 ?_
  refine A_iload_n dX6_farFrom_12 rfl ?_
  refine A_iadd dX6_farFrom_13 ?_
  refine A_callSp (a_X1_at (S := SC) (l := l) _ _ _ _ rfl) lc_X6_47 rfl (by decide) (Nat.le_of_ble_eq_true rfl) rfl dX6_farFrom_14 ?_
  exact A_iret rfl dX6_farFrom_17
theorem a_X6_farFrom {l : Launch}  (x1 : Int32) (x2 : Int32) (x3 : Int32) (M : xM)  : AM SC l yX6_farFrom cX6_farFrom 4 (some .int) 1 ki [xr 9, xi x1, xi x2, xi x3] M (some (P_X6_farFrom  x1 x2 x3  M, M)) :=
  AM.of (L0 := [some (xr 9), some (xi x1), some (xi x2), some (xi x3)]) (w_X6_farFrom (l := l) x1 x2 x3  M ) (by decide +kernel) rfl (Nat.le_of_ble_eq_true rfl) ⟨rfl, rfl, rfl, rfl, trivial⟩
def F_X6_nearest_b58 (fu : Nat)  (x1 : Int32) (x2 : Int32) (k11 : Int32 → Int32 → Int32 → xM → Option (Int32 × xM)) (x3 : Int32) (x4 : Int32) (x5 : Int32) (M : xM) : Option (Int32 × xM) :=
  k11 x3 x4 (x5 + (1 : Int32)) M
set_option maxRecDepth 100000 in
set_option maxHeartbeats 4000000 in
theorem a_X6_nearest_b58 {l : Launch} (fu : Nat) (x1 : Int32) (x2 : Int32)  {k11 : Int32 → Int32 → Int32 → xM → Option (Int32 × xM)} (hk11 : ∀ (b0 : Int32) (b1 : Int32) (b2 : Int32) (M : xM), AW SC l RX6 cX6_nearest 7 (some .int) 2 ki (k11 b0 b1 b2 M) 11 [some (xr 9), some (xi x1), some (xi x2), some (xi b0), some (xi b1), some (xi b2), none] [] M) (x3 : Int32) (x4 : Int32) (x5 : Int32) (M : xM)  : AW SC l RX6 cX6_nearest 7 (some .int) 2 ki (F_X6_nearest_b58 fu x1 x2 k11 x3 x4 x5 M) 58 [some (xr 9), some (xi x1), some (xi x2), some (xi x3), some (xi x4), some (xi x5), none] [] M := by
  unfold F_X6_nearest_b58
  refine A_iinc dX6_nearest_58 rfl oI_1 (Nat.le_of_ble_eq_true rfl) rfl ?_
  refine A_goto (tgt := 11) dX6_nearest_61 (by decide) ?_
  exact (hk11 _ _ _ _).sub ⟨rfl, rfl, rfl, rfl, rfl, rfl, trivial⟩
def F_X6_nearest_b42 (fu : Nat)  (x1 : Int32) (x2 : Int32) (k11 : Int32 → Int32 → Int32 → xM → Option (Int32 × xM)) (x3 : Int32) (x4 : Int32) (x5 : Int32) (x6 : Int32) (M : xM) : Option (Int32 × xM) :=
  (if x6 = x3 then
  F_X6_nearest_b58 fu x1 x2 k11 x3 (x4 ||| (P_X1_bit x5 M)) x5 M
  else
  F_X6_nearest_b58 fu x1 x2 k11 x3 x4 x5 M)
set_option maxRecDepth 100000 in
set_option maxHeartbeats 4000000 in
theorem a_X6_nearest_b42 {l : Launch} (fu : Nat) (x1 : Int32) (x2 : Int32)  {k11 : Int32 → Int32 → Int32 → xM → Option (Int32 × xM)} (hk11 : ∀ (b0 : Int32) (b1 : Int32) (b2 : Int32) (M : xM), AW SC l RX6 cX6_nearest 7 (some .int) 2 ki (k11 b0 b1 b2 M) 11 [some (xr 9), some (xi x1), some (xi x2), some (xi b0), some (xi b1), some (xi b2), none] [] M) (x3 : Int32) (x4 : Int32) (x5 : Int32) (x6 : Int32) (M : xM)  : AW SC l RX6 cX6_nearest 7 (some .int) 2 ki (F_X6_nearest_b42 fu x1 x2 k11 x3 x4 x5 x6 M) 42 [some (xr 9), some (xi x1), some (xi x2), some (xi x3), some (xi x4), some (xi x5), some (xi x6)] [] M := by
  unfold F_X6_nearest_b42
  refine A_iload dX6_nearest_42 rfl ?_
  refine A_iload_n dX6_nearest_44 rfl ?_
  refine A_icmp_ne (tgt := 58) dX6_nearest_45 (by decide) (fun _ => ?_) (fun _ => ?_)
  · refine A_iload dX6_nearest_48 rfl ?_
    refine A_iload dX6_nearest_50 rfl ?_
    refine A_callSp (a_X1_bit (S := SC) (l := l) _ _ ) lc_X6_88 rfl (by decide) (Nat.le_of_ble_eq_true rfl) rfl dX6_nearest_52 ?_
    refine A_ior dX6_nearest_55 ?_
    refine A_istore dX6_nearest_56 (Nat.le_of_ble_eq_true rfl) rfl ?_
    exact (a_X6_nearest_b58 (l := l) fu x1 x2 hk11 _ _ _ _ ).sub ⟨rfl, rfl, rfl, rfl, rfl, rfl, trivial⟩
  · exact (a_X6_nearest_b58 (l := l) fu x1 x2 hk11 _ _ _ _ ).sub ⟨rfl, rfl, rfl, rfl, rfl, rfl, trivial⟩
def F_X6_nearest_b11 (fu : Nat)  (x1 : Int32) (x2 : Int32)  : Nat → Int32 → Int32 → Int32 → xM → Option (Int32 × xM)
  | 0, _, _, _, _ => none
  | n + 1, x3, x4, x5, M =>
    (if (M 9 0) ≤ x5 then
    some (x4, M)
    else
    (if x3 ≤ (P_X6_farFrom x1 x2 x5 M) then
    F_X6_nearest_b42 fu x1 x2 (F_X6_nearest_b11 fu x1 x2 n) x3 x4 x5 (P_X6_farFrom x1 x2 x5 M) M
    else
    F_X6_nearest_b42 fu x1 x2 (F_X6_nearest_b11 fu x1 x2 n) (P_X6_farFrom x1 x2 x5 M) (0 : Int32) x5 (P_X6_farFrom x1 x2 x5 M) M))
set_option maxRecDepth 100000 in
set_option maxHeartbeats 4000000 in
theorem a_X6_nearest_b11 {l : Launch} (fu : Nat) (x1 : Int32) (x2 : Int32)    : ∀ (n : Nat) (x3 : Int32) (x4 : Int32) (x5 : Int32) (M : xM), AW SC l RX6 cX6_nearest 7 (some .int) 2 ki (F_X6_nearest_b11 fu x1 x2 n x3 x4 x5 M) 11 [some (xr 9), some (xi x1), some (xi x2), some (xi x3), some (xi x4), some (xi x5), none] [] M := by
  intro n
  induction n with
  | zero =>
    intro x3 x4 x5 M
    exact AW.none
  | succ n ih =>
    intro x3 x4 x5 M
    rw [F_X6_nearest_b11]
    refine A_iload dX6_nearest_11 rfl ?_
    refine A_aload_n dX6_nearest_13 rfl ?_
    refine A_geti lf_X6_34 rfl rfl dX6_nearest_14 ?_
    refine A_icmp_ge (tgt := 64) dX6_nearest_17 (by decide) (fun _ => ?_) (fun _ => ?_)
    · refine A_iload dX6_nearest_64 rfl ?_
      exact A_iret rfl dX6_nearest_66
    · refine A_aload_n dX6_nearest_20 rfl ?_
      refine A_iload_n dX6_nearest_21 rfl ?_
      refine A_iload_n dX6_nearest_22 rfl ?_
      refine A_iload dX6_nearest_23 rfl ?_
      refine A_callVp (a_X6_farFrom (l := l) _ _ _ _ ) lc_X6_84 rfl rfl (by decide) (Nat.le_of_ble_eq_true rfl) rfl dX6_nearest_25 ?_
      refine A_istore dX6_nearest_28 (Nat.le_of_ble_eq_true rfl) rfl ?_
      refine A_iload dX6_nearest_30 rfl ?_
      refine A_iload_n dX6_nearest_32 rfl ?_
      refine A_icmp_ge (tgt := 42) dX6_nearest_33 (by decide) (fun _ => ?_) (fun _ => ?_)
      · exact (a_X6_nearest_b42 (l := l) fu x1 x2 ih _ _ _ _ _ ).sub ⟨rfl, rfl, rfl, rfl, rfl, rfl, rfl, trivial⟩
      · refine A_iload dX6_nearest_36 rfl ?_
        refine A_istore_n dX6_nearest_38 (Nat.le_of_ble_eq_true rfl) rfl ?_
        refine A_iconst (v := (0 : Int32)) dX6_nearest_39 oI_0 ?_
        refine A_istore dX6_nearest_40 (Nat.le_of_ble_eq_true rfl) rfl ?_
        exact (a_X6_nearest_b42 (l := l) fu x1 x2 ih _ _ _ _ _ ).sub ⟨rfl, rfl, rfl, rfl, rfl, rfl, rfl, trivial⟩
def F_X6_nearest (fu : Nat)  (x1 : Int32) (x2 : Int32)   (M : xM) : Option (Int32 × xM) :=
  F_X6_nearest_b11 fu x1 x2 fu (M 9 1) (0 : Int32) (0 : Int32) M
set_option maxRecDepth 100000 in
set_option maxHeartbeats 4000000 in
theorem w_X6_nearest {l : Launch} (fu : Nat) (x1 : Int32) (x2 : Int32)     (M : xM)  : AW SC l RX6 cX6_nearest 7 (some .int) 2 ki (F_X6_nearest fu x1 x2  M) 0 [some (xr 9), some (xi x1), some (xi x2), none, none, none, none] [] M := by
  unfold F_X6_nearest
  refine A_aload_n dX6_nearest_0 rfl ?_
  refine A_geti lf_X6_9 rfl rfl dX6_nearest_1 ?_
  refine A_istore_n dX6_nearest_4 (Nat.le_of_ble_eq_true rfl) rfl ?_
  refine A_iconst (v := (0 : Int32)) dX6_nearest_5 oI_0 ?_
  refine A_istore dX6_nearest_6 (Nat.le_of_ble_eq_true rfl) rfl ?_
  refine A_iconst (v := (0 : Int32)) dX6_nearest_8 oI_0 ?_
  refine A_istore dX6_nearest_9 (Nat.le_of_ble_eq_true rfl) rfl ?_
  exact (a_X6_nearest_b11 (l := l) fu x1 x2  fu _ _ _ _).sub ⟨rfl, rfl, rfl, rfl, rfl, rfl, trivial⟩
theorem a_X6_nearest {l : Launch} (fu : Nat)  (x1 : Int32) (x2 : Int32) (M : xM)  : AM SC l yX6_nearest cX6_nearest 7 (some .int) 2 ki [xr 9, xi x1, xi x2] M (F_X6_nearest fu x1 x2  M) :=
  AM.of (L0 := [some (xr 9), some (xi x1), some (xi x2), none, none, none, none]) (w_X6_nearest (l := l) fu x1 x2  M ) (by decide +kernel) rfl (Nat.le_of_ble_eq_true rfl) ⟨rfl, rfl, rfl, trivial⟩
def F_X6_isReadAtAll_b2 (fu : Nat)  (x1 : Int32)  : Nat → Int32 → xM → Option (Int32 × xM)
  | 0, _, _ => none
  | n + 1, x2, M =>
    (if (4 : Int32) ≤ x2 then
    some ((0 : Int32), M)
    else
    (if (P_X6_isRead x2 x1 M) = 0 then
    F_X6_isReadAtAll_b2 fu x1 n (x2 + (1 : Int32)) M
    else
    some ((1 : Int32), M)))
set_option maxRecDepth 100000 in
set_option maxHeartbeats 4000000 in
theorem a_X6_isReadAtAll_b2 {l : Launch} (fu : Nat) (x1 : Int32)    : ∀ (n : Nat) (x2 : Int32) (M : xM), AW SC l RX6 cX6_isReadAtAll 3 (some .boolean) 2 ki (F_X6_isReadAtAll_b2 fu x1 n x2 M) 2 [some (xr 9), some (xi x1), some (xi x2)] [] M := by
  intro n
  induction n with
  | zero =>
    intro x2 M
    exact AW.none
  | succ n ih =>
    intro x2 M
    rw [F_X6_isReadAtAll_b2]
    refine A_iload_n dX6_isReadAtAll_2 rfl ?_
    refine A_iconst (v := (4 : Int32)) dX6_isReadAtAll_3 oI_4 ?_
    refine A_icmp_ge (tgt := 24) dX6_isReadAtAll_4 (by decide) (fun _ => ?_) (fun _ => ?_)
    · refine A_iconst (v := (0 : Int32)) dX6_isReadAtAll_24 oI_0 ?_
      exact A_zret' rfl (Or.inl rfl) dX6_isReadAtAll_25
    · refine A_aload_n dX6_isReadAtAll_7 rfl ?_
      refine A_iload_n dX6_isReadAtAll_8 rfl ?_
      refine A_iload_n dX6_isReadAtAll_9 rfl ?_
      refine A_callVp (a_X6_isRead (l := l) _ _ _ ) lc_X6_92 rfl rfl (by decide) (Nat.le_of_ble_eq_true rfl) rfl dX6_isReadAtAll_10 ?_
      refine A_if_eq (tgt := 18) dX6_isReadAtAll_13 (by decide) (fun _ => ?_) (fun _ => ?_)
      · refine A_iinc dX6_isReadAtAll_18 rfl oI_1 (Nat.le_of_ble_eq_true rfl) rfl ?_
        refine A_goto (tgt := 2) dX6_isReadAtAll_21 (by decide) ?_
        exact (ih _ _).sub ⟨rfl, rfl, rfl, trivial⟩
      · refine A_iconst (v := (1 : Int32)) dX6_isReadAtAll_16 oI_1 ?_
        exact A_zret' rfl (Or.inr rfl) dX6_isReadAtAll_17
def F_X6_isReadAtAll (fu : Nat)  (x1 : Int32)   (M : xM) : Option (Int32 × xM) :=
  F_X6_isReadAtAll_b2 fu x1 fu (0 : Int32) M
set_option maxRecDepth 100000 in
set_option maxHeartbeats 4000000 in
theorem w_X6_isReadAtAll {l : Launch} (fu : Nat) (x1 : Int32)     (M : xM)  : AW SC l RX6 cX6_isReadAtAll 3 (some .boolean) 2 ki (F_X6_isReadAtAll fu x1  M) 0 [some (xr 9), some (xi x1), none] [] M := by
  unfold F_X6_isReadAtAll
  refine A_iconst (v := (0 : Int32)) dX6_isReadAtAll_0 oI_0 ?_
  refine A_istore_n dX6_isReadAtAll_1 (Nat.le_of_ble_eq_true rfl) rfl ?_
  exact (a_X6_isReadAtAll_b2 (l := l) fu x1  fu _ _).sub ⟨rfl, rfl, rfl, trivial⟩
theorem a_X6_isReadAtAll {l : Launch} (fu : Nat)  (x1 : Int32) (M : xM)  : AM SC l yX6_isReadAtAll cX6_isReadAtAll 3 (some .boolean) 2 ki [xr 9, xi x1] M (F_X6_isReadAtAll fu x1  M) :=
  AM.of (L0 := [some (xr 9), some (xi x1), none]) (w_X6_isReadAtAll (l := l) fu x1  M ) (by decide +kernel) rfl (Nat.le_of_ble_eq_true rfl) ⟨rfl, rfl, trivial⟩
def F_X6_agreedName_b58 (fu : Nat)  (x1 : Int32) (k13 : Int32 → Int32 → Int32 → xM → Option (Int32 × xM)) (x2 : Int32) (x3 : Int32) (x4 : Int32) (M : xM) : Option (Int32 × xM) :=
  k13 x2 x3 (x4 + (1 : Int32)) M
set_option maxRecDepth 100000 in
set_option maxHeartbeats 4000000 in
theorem a_X6_agreedName_b58 {l : Launch} (fu : Nat) (x1 : Int32)  {k13 : Int32 → Int32 → Int32 → xM → Option (Int32 × xM)} (hk13 : ∀ (b0 : Int32) (b1 : Int32) (b2 : Int32) (M : xM), AW SC l RX6 cX6_agreedName 6 (some .int) 3 ki (k13 b0 b1 b2 M) 13 [some (xr 9), some (xi x1), some (xi b0), some (xi b1), some (xi b2), none] [] M) (x2 : Int32) (x3 : Int32) (x4 : Int32) (M : xM)  : AW SC l RX6 cX6_agreedName 6 (some .int) 3 ki (F_X6_agreedName_b58 fu x1 k13 x2 x3 x4 M) 58 [some (xr 9), some (xi x1), some (xi x2), some (xi x3), some (xi x4), none] [] M := by
  unfold F_X6_agreedName_b58
  refine A_iinc dX6_agreedName_58 rfl oI_1 (Nat.le_of_ble_eq_true rfl) rfl ?_
  refine A_goto (tgt := 13) dX6_agreedName_61 (by decide) ?_
  exact (hk13 _ _ _ _).sub ⟨rfl, rfl, rfl, rfl, rfl, trivial⟩
def F_X6_agreedName_b54 (fu : Nat)  (x1 : Int32) (k13 : Int32 → Int32 → Int32 → xM → Option (Int32 × xM)) (x4 : Int32) (s0 : Int32) (s1 : Int32) (M : xM) : Option (Int32 × xM) :=
  F_X6_agreedName_b58 fu x1 k13 (1 : Int32) (s1 &&& s0) x4 M
set_option maxRecDepth 100000 in
set_option maxHeartbeats 4000000 in
theorem a_X6_agreedName_b54 {l : Launch} (fu : Nat) (x1 : Int32)  {k13 : Int32 → Int32 → Int32 → xM → Option (Int32 × xM)} (hk13 : ∀ (b0 : Int32) (b1 : Int32) (b2 : Int32) (M : xM), AW SC l RX6 cX6_agreedName 6 (some .int) 3 ki (k13 b0 b1 b2 M) 13 [some (xr 9), some (xi x1), some (xi b0), some (xi b1), some (xi b2), none] [] M) (x4 : Int32) (s0 : Int32) (s1 : Int32) (M : xM)  : AW SC l RX6 cX6_agreedName 6 (some .int) 3 ki (F_X6_agreedName_b54 fu x1 k13 x4 s0 s1 M) 54 [some (xr 9), some (xi x1), none, none, some (xi x4), none] [xi s0, xi s1] M := by
  unfold F_X6_agreedName_b54
  refine A_iand dX6_agreedName_54 ?_
  refine A_istore_n dX6_agreedName_55 (Nat.le_of_ble_eq_true rfl) rfl ?_
  refine A_iconst (v := (1 : Int32)) dX6_agreedName_56 oI_1 ?_
  refine A_istore_n dX6_agreedName_57 (Nat.le_of_ble_eq_true rfl) rfl ?_
  exact (a_X6_agreedName_b58 (l := l) fu x1 hk13 _ _ _ _ ).sub ⟨rfl, rfl, rfl, rfl, rfl, trivial⟩
def F_X6_agreedName_b13 (fu : Nat)  (x1 : Int32)  : Nat → Int32 → Int32 → Int32 → xM → Option (Int32 × xM)
  | 0, _, _, _, _ => none
  | n + 1, x2, x3, x4, M =>
    (if (4 : Int32) ≤ x4 then
    (if x2 = 0 then
    some ((-1 : Int32), M)
    else
    (if x3 = 0 then
    some ((-1 : Int32), M)
    else
    some ((P_J6_numberOfTrailingZeros_0f7a4 x3 M), M)))
    else
    (if (P_X6_isRead x4 x1 M) = 0 then
    F_X6_agreedName_b58 fu x1 (F_X6_agreedName_b13 fu x1 n) x2 x3 x4 M
    else
    (F_X6_nearest fu x4 x1 M).bind fun q1 =>
    (if (P_J6_bitCount_0f7a4 q1.1 q1.2) = (1 : Int32) then
    F_X6_agreedName_b54 fu x1 (F_X6_agreedName_b13 fu x1 n) x4 q1.1 x3 q1.2
    else
    F_X6_agreedName_b54 fu x1 (F_X6_agreedName_b13 fu x1 n) x4 (0 : Int32) x3 q1.2)))
set_option maxRecDepth 100000 in
set_option maxHeartbeats 4000000 in
theorem a_X6_agreedName_b13 {l : Launch} (fu : Nat) (x1 : Int32)    : ∀ (n : Nat) (x2 : Int32) (x3 : Int32) (x4 : Int32) (M : xM), AW SC l RX6 cX6_agreedName 6 (some .int) 3 ki (F_X6_agreedName_b13 fu x1 n x2 x3 x4 M) 13 [some (xr 9), some (xi x1), some (xi x2), some (xi x3), some (xi x4), none] [] M := by
  intro n
  induction n with
  | zero =>
    intro x2 x3 x4 M
    exact AW.none
  | succ n ih =>
    intro x2 x3 x4 M
    rw [F_X6_agreedName_b13]
    refine A_iload dX6_agreedName_13 rfl ?_
    refine A_iconst (v := (4 : Int32)) dX6_agreedName_15 oI_4 ?_
    refine A_icmp_ge (tgt := 64) dX6_agreedName_16 (by decide) (fun _ => ?_) (fun _ => ?_)
    · refine A_iload_n dX6_agreedName_64 rfl ?_
      refine A_if_eq (tgt := 79) dX6_agreedName_65 (by decide) (fun _ => ?_) (fun _ => ?_)
      · refine A_iconst (v := (-1 : Int32)) dX6_agreedName_79 oI_m1 ?_
        exact A_iret rfl dX6_agreedName_80
      · refine A_iload_n dX6_agreedName_68 rfl ?_
        refine A_if_eq (tgt := 79) dX6_agreedName_69 (by decide) (fun _ => ?_) (fun _ => ?_)
        · refine A_iconst (v := (-1 : Int32)) dX6_agreedName_79 oI_m1 ?_
          exact A_iret rfl dX6_agreedName_80
        · refine A_iload_n dX6_agreedName_72 rfl ?_
          refine A_callSp (a_J6_numberOfTrailingZeros_0f7a4 (S := SC) (l := l) _ _ ) lc_X6_107 rfl (by decide) (Nat.le_of_ble_eq_true rfl) rfl dX6_agreedName_73 ?_
          refine A_goto (tgt := 80) dX6_agreedName_76 (by decide) ?_
          exact A_iret rfl dX6_agreedName_80
    · refine A_aload_n dX6_agreedName_19 rfl ?_
      refine A_iload dX6_agreedName_20 rfl ?_
      refine A_iload_n dX6_agreedName_22 rfl ?_
      refine A_callVp (a_X6_isRead (l := l) _ _ _ ) lc_X6_92 rfl rfl (by decide) (Nat.le_of_ble_eq_true rfl) rfl dX6_agreedName_23 ?_
      refine A_if_eq (tgt := 58) dX6_agreedName_26 (by decide) (fun _ => ?_) (fun _ => ?_)
      · exact (a_X6_agreedName_b58 (l := l) fu x1 ih _ _ _ _ ).sub ⟨rfl, rfl, rfl, rfl, rfl, trivial⟩
      · refine A_aload_n dX6_agreedName_29 rfl ?_
        refine A_iload dX6_agreedName_30 rfl ?_
        refine A_iload_n dX6_agreedName_32 rfl ?_
        refine A_callVi (a_X6_nearest (l := l) fu _ _ _ ) lc_X6_99 rfl rfl (by decide) (Nat.le_of_ble_eq_true rfl) rfl dX6_agreedName_33 (fun q1 Mq1 hq1 => ?_)
        refine A_istore dX6_agreedName_36 (Nat.le_of_ble_eq_true rfl) rfl ?_
        refine A_iload_n dX6_agreedName_38 rfl ?_
        refine A_iload dX6_agreedName_39 rfl ?_
        refine A_callSp (a_J6_bitCount_0f7a4 (S := SC) (l := l) _ _ ) lc_X6_102 rfl (by decide) (Nat.le_of_ble_eq_true rfl) rfl dX6_agreedName_41 ?_
        refine A_iconst (v := (1 : Int32)) dX6_agreedName_44 oI_1 ?_
        refine A_icmp_ne (tgt := 53) dX6_agreedName_45 (by decide) (fun _ => ?_) (fun _ => ?_)
        · refine A_iload dX6_agreedName_48 rfl ?_
          refine A_goto (tgt := 54) dX6_agreedName_50 (by decide) ?_
          exact (a_X6_agreedName_b54 (l := l) fu x1 ih _ _ _ _ ).sub ⟨rfl, rfl, rfl, trivial⟩
        · refine A_iconst (v := (0 : Int32)) dX6_agreedName_53 oI_0 ?_
          exact (a_X6_agreedName_b54 (l := l) fu x1 ih _ _ _ _ ).sub ⟨rfl, rfl, rfl, trivial⟩
def F_X6_agreedName (fu : Nat)  (x1 : Int32)   (M : xM) : Option (Int32 × xM) :=
  F_X6_agreedName_b13 fu x1 fu (0 : Int32) (P_X1_all (M 9 0) M) (0 : Int32) M
set_option maxRecDepth 100000 in
set_option maxHeartbeats 4000000 in
theorem w_X6_agreedName {l : Launch} (fu : Nat) (x1 : Int32)     (M : xM)  : AW SC l RX6 cX6_agreedName 6 (some .int) 3 ki (F_X6_agreedName fu x1  M) 0 [some (xr 9), some (xi x1), none, none, none, none] [] M := by
  unfold F_X6_agreedName
  refine A_iconst (v := (0 : Int32)) dX6_agreedName_0 oI_0 ?_
  refine A_istore_n dX6_agreedName_1 (Nat.le_of_ble_eq_true rfl) rfl ?_
  refine A_aload_n dX6_agreedName_2 rfl ?_
  refine A_geti lf_X6_34 rfl rfl dX6_agreedName_3 ?_
  refine A_callSp (a_X1_all (S := SC) (l := l) _ _ ) lc_X6_96 rfl (by decide) (Nat.le_of_ble_eq_true rfl) rfl dX6_agreedName_6 ?_
  refine A_istore_n dX6_agreedName_9 (Nat.le_of_ble_eq_true rfl) rfl ?_
  refine A_iconst (v := (0 : Int32)) dX6_agreedName_10 oI_0 ?_
  refine A_istore dX6_agreedName_11 (Nat.le_of_ble_eq_true rfl) rfl ?_
  exact (a_X6_agreedName_b13 (l := l) fu x1  fu _ _ _ _).sub ⟨rfl, rfl, rfl, rfl, rfl, trivial⟩
theorem a_X6_agreedName {l : Launch} (fu : Nat)  (x1 : Int32) (M : xM)  : AM SC l yX6_agreedName cX6_agreedName 6 (some .int) 3 ki [xr 9, xi x1] M (F_X6_agreedName fu x1  M) :=
  AM.of (L0 := [some (xr 9), some (xi x1), none, none, none, none]) (w_X6_agreedName (l := l) fu x1  M ) (by decide +kernel) rfl (Nat.le_of_ble_eq_true rfl) ⟨rfl, rfl, trivial⟩
def F_X6_isUnlike_b95 (fu : Nat)  (x1 : Int32) (k4 : Int32 → Int32 → xM → Option (Int32 × xM)) (x2 : Int32) (x3 : Int32) (M : xM) : Option (Int32 × xM) :=
  k4 x2 (x3 + (1 : Int32)) M
set_option maxRecDepth 100000 in
set_option maxHeartbeats 4000000 in
theorem a_X6_isUnlike_b95 {l : Launch} (fu : Nat) (x1 : Int32)  {k4 : Int32 → Int32 → xM → Option (Int32 × xM)} (hk4 : ∀ (b0 : Int32) (b1 : Int32) (M : xM), AW SC l RX6 cX6_isUnlike 7 (some .boolean) 2 ki (k4 b0 b1 M) 4 [some (xr 9), some (xi x1), some (xi b0), some (xi b1), none, none, none] [] M) (x2 : Int32) (x3 : Int32) (M : xM)  : AW SC l RX6 cX6_isUnlike 7 (some .boolean) 2 ki (F_X6_isUnlike_b95 fu x1 k4 x2 x3 M) 95 [some (xr 9), some (xi x1), some (xi x2), some (xi x3), none, none, none] [] M := by
  unfold F_X6_isUnlike_b95
  refine A_iinc dX6_isUnlike_95 rfl oI_1 (Nat.le_of_ble_eq_true rfl) rfl ?_
  refine A_goto (tgt := 4) dX6_isUnlike_98 (by decide) ?_
  exact (hk4 _ _ _).sub ⟨rfl, rfl, rfl, rfl, trivial⟩
def F_X6_isUnlike_b86 (fu : Nat)  (x1 : Int32) (k4 : Int32 → Int32 → xM → Option (Int32 × xM)) (x2 : Int32) (x3 : Int32) (s0 : Int32) (M : xM) : Option (Int32 × xM) :=
  (if s0 = 0 then
  some ((1 : Int32), M)
  else
  F_X6_isUnlike_b95 fu x1 k4 x2 x3 M)
set_option maxRecDepth 100000 in
set_option maxHeartbeats 4000000 in
theorem a_X6_isUnlike_b86 {l : Launch} (fu : Nat) (x1 : Int32)  {k4 : Int32 → Int32 → xM → Option (Int32 × xM)} (hk4 : ∀ (b0 : Int32) (b1 : Int32) (M : xM), AW SC l RX6 cX6_isUnlike 7 (some .boolean) 2 ki (k4 b0 b1 M) 4 [some (xr 9), some (xi x1), some (xi b0), some (xi b1), none, none, none] [] M) (x2 : Int32) (x3 : Int32) (s0 : Int32) (M : xM)  : AW SC l RX6 cX6_isUnlike 7 (some .boolean) 2 ki (F_X6_isUnlike_b86 fu x1 k4 x2 x3 s0 M) 86 [some (xr 9), some (xi x1), some (xi x2), some (xi x3), none, none, none] [xi s0] M := by
  unfold F_X6_isUnlike_b86
  refine A_istore dX6_isUnlike_86 (Nat.le_of_ble_eq_true rfl) rfl ?_
  refine A_iload dX6_isUnlike_88 rfl ?_
  refine A_if_ne (tgt := 95) dX6_isUnlike_90 (by decide) (fun _ => ?_) (fun _ => ?_)
  · refine A_iconst (v := (1 : Int32)) dX6_isUnlike_93 oI_1 ?_
    exact A_zret' rfl (Or.inr rfl) dX6_isUnlike_94
  · exact (a_X6_isUnlike_b95 (l := l) fu x1 hk4 _ _ _ ).sub ⟨rfl, rfl, rfl, rfl, trivial⟩
def F_X6_isUnlike_b85 (fu : Nat)  (x1 : Int32) (k4 : Int32 → Int32 → xM → Option (Int32 × xM)) (x2 : Int32) (x3 : Int32) (M : xM) : Option (Int32 × xM) :=
  F_X6_isUnlike_b86 fu x1 k4 x2 x3 (0 : Int32) M
set_option maxRecDepth 100000 in
set_option maxHeartbeats 4000000 in
theorem a_X6_isUnlike_b85 {l : Launch} (fu : Nat) (x1 : Int32)  {k4 : Int32 → Int32 → xM → Option (Int32 × xM)} (hk4 : ∀ (b0 : Int32) (b1 : Int32) (M : xM), AW SC l RX6 cX6_isUnlike 7 (some .boolean) 2 ki (k4 b0 b1 M) 4 [some (xr 9), some (xi x1), some (xi b0), some (xi b1), none, none, none] [] M) (x2 : Int32) (x3 : Int32) (M : xM)  : AW SC l RX6 cX6_isUnlike 7 (some .boolean) 2 ki (F_X6_isUnlike_b85 fu x1 k4 x2 x3 M) 85 [some (xr 9), some (xi x1), some (xi x2), some (xi x3), none, none, none] [] M := by
  unfold F_X6_isUnlike_b85
  refine A_iconst (v := (0 : Int32)) dX6_isUnlike_85 oI_0 ?_
  exact (a_X6_isUnlike_b86 (l := l) fu x1 hk4 _ _ _ _ ).sub ⟨rfl, rfl, rfl, rfl, trivial⟩
def F_X6_isUnlike_b43 (fu : Nat)  (x1 : Int32) (k4 : Int32 → Int32 → xM → Option (Int32 × xM)) (x2 : Int32) (x3 : Int32) (x4 : Int32) (x5 : Int32) (M : xM) : Option (Int32 × xM) :=
  (if x5 = (P_X1_at 49 120 x2 M) then
  (F_X6_isSame fu 48 960 (x4 * (8 : Int32)) 48 960 (x2 * (8 : Int32)) x5 M).bind fun q1 =>
  (if q1.1 = 0 then
  F_X6_isUnlike_b85 fu x1 k4 x2 x3 q1.2
  else
  F_X6_isUnlike_b86 fu x1 k4 x2 x3 (1 : Int32) q1.2)
  else
  F_X6_isUnlike_b85 fu x1 k4 x2 x3 M)
set_option maxRecDepth 100000 in
set_option maxHeartbeats 4000000 in
theorem a_X6_isUnlike_b43 {l : Launch} (fu : Nat) (x1 : Int32)  {k4 : Int32 → Int32 → xM → Option (Int32 × xM)} (hk4 : ∀ (b0 : Int32) (b1 : Int32) (M : xM), AW SC l RX6 cX6_isUnlike 7 (some .boolean) 2 ki (k4 b0 b1 M) 4 [some (xr 9), some (xi x1), some (xi b0), some (xi b1), none, none, none] [] M) (x2 : Int32) (x3 : Int32) (x4 : Int32) (x5 : Int32) (M : xM)  : AW SC l RX6 cX6_isUnlike 7 (some .boolean) 2 ki (F_X6_isUnlike_b43 fu x1 k4 x2 x3 x4 x5 M) 43 [some (xr 9), some (xi x1), some (xi x2), some (xi x3), some (xi x4), some (xi x5), none] [] M := by
  unfold F_X6_isUnlike_b43
  refine A_iload dX6_isUnlike_43 rfl ?_
  refine A_aload_n dX6_isUnlike_45 rfl ?_
  refine A_getr lf_X6_25 rfl rfl dX6_isUnlike_46 ?_
  refine A_iload_n dX6_isUnlike_49 rfl ?_
  refine A_callSp (a_X1_at (S := SC) (l := l) _ _ _ _ rfl) lc_X6_47 rfl (by decide) (Nat.le_of_ble_eq_true rfl) rfl dX6_isUnlike_50 ?_
  refine A_icmp_ne (tgt := 85) dX6_isUnlike_53 (by decide) (fun _ => ?_) (fun _ => ?_)
  · refine A_aload_n dX6_isUnlike_56 rfl ?_
    refine A_getr lf_X6_22 rfl rfl dX6_isUnlike_57 ?_
    refine A_iload dX6_isUnlike_60 rfl ?_
    refine A_bipush (v := (8 : Int32)) dX6_isUnlike_62 oB_8 ?_
    refine A_imul dX6_isUnlike_64 ?_
    refine A_aload_n dX6_isUnlike_65 rfl ?_
    refine A_getr lf_X6_22 rfl rfl dX6_isUnlike_66 ?_
    refine A_iload_n dX6_isUnlike_69 rfl ?_
    refine A_bipush (v := (8 : Int32)) dX6_isUnlike_70 oB_8 ?_
    refine A_imul dX6_isUnlike_72 ?_
    refine A_iload dX6_isUnlike_73 rfl ?_
    refine A_callSi (a_X6_isSame (l := l) fu _ _ _ _ _ _ _ _ rfl rfl) lc_X6_63 rfl (by decide) (Nat.le_of_ble_eq_true rfl) rfl dX6_isUnlike_75 (fun q1 Mq1 hq1 => ?_)
    refine A_if_eq (tgt := 85) dX6_isUnlike_78 (by decide) (fun _ => ?_) (fun _ => ?_)
    · exact (a_X6_isUnlike_b85 (l := l) fu x1 hk4 _ _ _ ).sub ⟨rfl, rfl, rfl, rfl, trivial⟩
    · refine A_iconst (v := (1 : Int32)) dX6_isUnlike_81 oI_1 ?_
      refine A_goto (tgt := 86) dX6_isUnlike_82 (by decide) ?_
      exact (a_X6_isUnlike_b86 (l := l) fu x1 hk4 _ _ _ _ ).sub ⟨rfl, rfl, rfl, rfl, trivial⟩
  · exact (a_X6_isUnlike_b85 (l := l) fu x1 hk4 _ _ _ ).sub ⟨rfl, rfl, rfl, rfl, trivial⟩
def F_X6_isUnlike_b4 (fu : Nat)  (x1 : Int32)  : Nat → Int32 → Int32 → xM → Option (Int32 × xM)
  | 0, _, _, _ => none
  | n + 1, x2, x3, M =>
    (if (4 : Int32) ≤ x3 then
    some ((0 : Int32), M)
    else
    (if (P_X1_at 49 120 (P_X6_reading x3 x1 M) M) = 0 then
    F_X6_isUnlike_b95 fu x1 (F_X6_isUnlike_b4 fu x1 n) x2 x3 M
    else
    (if x2 = (-1 : Int32) then
    F_X6_isUnlike_b43 fu x1 (F_X6_isUnlike_b4 fu x1 n) (P_X6_reading x3 x1 M) x3 (P_X6_reading x3 x1 M) (P_X1_at 49 120 (P_X6_reading x3 x1 M) M) M
    else
    F_X6_isUnlike_b43 fu x1 (F_X6_isUnlike_b4 fu x1 n) x2 x3 (P_X6_reading x3 x1 M) (P_X1_at 49 120 (P_X6_reading x3 x1 M) M) M)))
set_option maxRecDepth 100000 in
set_option maxHeartbeats 4000000 in
theorem a_X6_isUnlike_b4 {l : Launch} (fu : Nat) (x1 : Int32)    : ∀ (n : Nat) (x2 : Int32) (x3 : Int32) (M : xM), AW SC l RX6 cX6_isUnlike 7 (some .boolean) 2 ki (F_X6_isUnlike_b4 fu x1 n x2 x3 M) 4 [some (xr 9), some (xi x1), some (xi x2), some (xi x3), none, none, none] [] M := by
  intro n
  induction n with
  | zero =>
    intro x2 x3 M
    exact AW.none
  | succ n ih =>
    intro x2 x3 M
    rw [F_X6_isUnlike_b4]
    refine A_iload_n dX6_isUnlike_4 rfl ?_
    refine A_iconst (v := (4 : Int32)) dX6_isUnlike_5 oI_4 ?_
    refine A_icmp_ge (tgt := 101) dX6_isUnlike_6 (by decide) (fun _ => ?_) (fun _ => ?_)
    · refine A_iconst (v := (0 : Int32)) dX6_isUnlike_101 oI_0 ?_
      exact A_zret' rfl (Or.inl rfl) dX6_isUnlike_102
    · refine A_iload_n dX6_isUnlike_9 rfl ?_
      refine A_iload_n dX6_isUnlike_10 rfl ?_
      refine A_callSp (a_X6_reading (l := l) _ _ _ ) lc_X6_43 rfl (by decide) (Nat.le_of_ble_eq_true rfl) rfl dX6_isUnlike_11 ?_
      refine A_istore dX6_isUnlike_14 (Nat.le_of_ble_eq_true rfl) rfl ?_
      refine A_aload_n dX6_isUnlike_16 rfl ?_
      refine A_getr lf_X6_25 rfl rfl dX6_isUnlike_17 ?_
      refine A_iload dX6_isUnlike_20 rfl ?_
      refine A_callSp (a_X1_at (S := SC) (l := l) _ _ _ _ rfl) lc_X6_47 rfl (by decide) (Nat.le_of_ble_eq_true rfl) rfl dX6_isUnlike_22 ?_
      refine A_istore dX6_isUnlike_25 (Nat.le_of_ble_eq_true rfl) rfl ?_
      refine A_iload dX6_isUnlike_27 rfl ?_
      refine A_if_ne (tgt := 35) dX6_isUnlike_29 (by decide) (fun _ => ?_) (fun _ => ?_)
      · refine A_goto (tgt := 95) dX6_isUnlike_32 (by decide) ?_
        exact (a_X6_isUnlike_b95 (l := l) fu x1 ih _ _ _ ).sub ⟨rfl, rfl, rfl, rfl, trivial⟩
      · refine A_iload_n dX6_isUnlike_35 rfl ?_
        refine A_iconst (v := (-1 : Int32)) dX6_isUnlike_36 oI_m1 ?_
        refine A_icmp_ne (tgt := 43) dX6_isUnlike_37 (by decide) (fun _ => ?_) (fun _ => ?_)
        · refine A_iload dX6_isUnlike_40 rfl ?_
          refine A_istore_n dX6_isUnlike_42 (Nat.le_of_ble_eq_true rfl) rfl ?_
          exact (a_X6_isUnlike_b43 (l := l) fu x1 ih _ _ _ _ _ ).sub ⟨rfl, rfl, rfl, rfl, rfl, rfl, trivial⟩
        · exact (a_X6_isUnlike_b43 (l := l) fu x1 ih _ _ _ _ _ ).sub ⟨rfl, rfl, rfl, rfl, rfl, rfl, trivial⟩
def F_X6_isUnlike (fu : Nat)  (x1 : Int32)   (M : xM) : Option (Int32 × xM) :=
  F_X6_isUnlike_b4 fu x1 fu (-1 : Int32) (0 : Int32) M
set_option maxRecDepth 100000 in
set_option maxHeartbeats 4000000 in
theorem w_X6_isUnlike {l : Launch} (fu : Nat) (x1 : Int32)     (M : xM)  : AW SC l RX6 cX6_isUnlike 7 (some .boolean) 2 ki (F_X6_isUnlike fu x1  M) 0 [some (xr 9), some (xi x1), none, none, none, none, none] [] M := by
  unfold F_X6_isUnlike
  refine A_iconst (v := (-1 : Int32)) dX6_isUnlike_0 oI_m1 ?_
  refine A_istore_n dX6_isUnlike_1 (Nat.le_of_ble_eq_true rfl) rfl ?_
  refine A_iconst (v := (0 : Int32)) dX6_isUnlike_2 oI_0 ?_
  refine A_istore_n dX6_isUnlike_3 (Nat.le_of_ble_eq_true rfl) rfl ?_
  exact (a_X6_isUnlike_b4 (l := l) fu x1  fu _ _ _).sub ⟨rfl, rfl, rfl, rfl, trivial⟩
theorem a_X6_isUnlike {l : Launch} (fu : Nat)  (x1 : Int32) (M : xM)  : AM SC l yX6_isUnlike cX6_isUnlike 7 (some .boolean) 2 ki [xr 9, xi x1] M (F_X6_isUnlike fu x1  M) :=
  AM.of (L0 := [some (xr 9), some (xi x1), none, none, none, none, none]) (w_X6_isUnlike (l := l) fu x1  M ) (by decide +kernel) rfl (Nat.le_of_ble_eq_true rfl) ⟨rfl, rfl, trivial⟩
def F_X6_counts (fu : Nat)  (x1 : Int32) (x2 : Int32)   (M : xM) : Option (Int32 × xM) :=
  (if x2 = (0 : Int32) then
  (F_X6_isReadAtAll fu x1 M).bind fun q1 =>
  (if q1.1 = 0 ∨ q1.1 = 1 then some (q1.1, q1.2) else none)
  else
  (if x2 = (1 : Int32) then
  (F_X6_agreedName fu x1 M).bind fun q2 =>
  (if q2.1 = (-1 : Int32) then
  some ((0 : Int32), q2.2)
  else
  some ((1 : Int32), q2.2))
  else
  (if x2 = (2 : Int32) then
  (F_X6_isReadAtAll fu x1 M).bind fun q3 =>
  (if q3.1 = 0 then
  some ((0 : Int32), q3.2)
  else
  (F_X6_agreedName fu x1 q3.2).bind fun q4 =>
  (if q4.1 = (-1 : Int32) then
  some ((1 : Int32), q4.2)
  else
  some ((0 : Int32), q4.2)))
  else
  (F_X6_isUnlike fu x1 M).bind fun q5 =>
  (if q5.1 = 0 ∨ q5.1 = 1 then some (q5.1, q5.2) else none))))
set_option maxRecDepth 100000 in
set_option maxHeartbeats 4000000 in
theorem w_X6_counts {l : Launch} (fu : Nat) (x1 : Int32) (x2 : Int32)     (M : xM)  : AW SC l RX6 cX6_counts 3 (some .boolean) 4 ki (F_X6_counts fu x1 x2  M) 0 [some (xr 9), some (xi x1), some (xi x2)] [] M := by
  unfold F_X6_counts
  refine A_iload_n dX6_counts_0 rfl ?_
  refine AW.ite (fun e => ?_) (fun e0 => ?_)
  · refine A_tableIn (off := 27) (tgt := 28) dX6_counts_1 (by rw [e]; decide) (by rw [e]; decide) (by rw [e]; rfl) (by decide) ?_
    refine A_aload_n dX6_counts_28 rfl ?_
    refine A_iload_n dX6_counts_29 rfl ?_
    refine A_callVi (a_X6_isReadAtAll (l := l) fu _ _ ) lc_X6_110 rfl rfl (by decide) (Nat.le_of_ble_eq_true rfl) rfl dX6_counts_30 (fun q1 Mq1 hq1 => ?_)
    exact A_zret rfl dX6_counts_33
  · refine AW.ite (fun e => ?_) (fun e1 => ?_)
    · refine A_tableIn (off := 33) (tgt := 34) dX6_counts_1 (by rw [e]; decide) (by rw [e]; decide) (by rw [e]; rfl) (by decide) ?_
      refine A_aload_n dX6_counts_34 rfl ?_
      refine A_iload_n dX6_counts_35 rfl ?_
      refine A_callVi (a_X6_agreedName (l := l) fu _ _ ) lc_X6_114 rfl rfl (by decide) (Nat.le_of_ble_eq_true rfl) rfl dX6_counts_36 (fun q2 Mq2 hq2 => ?_)
      refine A_iconst (v := (-1 : Int32)) dX6_counts_39 oI_m1 ?_
      refine A_icmp_eq (tgt := 47) dX6_counts_40 (by decide) (fun _ => ?_) (fun _ => ?_)
      · refine A_iconst (v := (0 : Int32)) dX6_counts_47 oI_0 ?_
        exact A_zret' rfl (Or.inl rfl) dX6_counts_48
      · refine A_iconst (v := (1 : Int32)) dX6_counts_43 oI_1 ?_
        refine A_goto (tgt := 48) dX6_counts_44 (by decide) ?_
        exact A_zret' rfl (Or.inr rfl) dX6_counts_48
    · refine AW.ite (fun e => ?_) (fun e2 => ?_)
      · refine A_tableIn (off := 48) (tgt := 49) dX6_counts_1 (by rw [e]; decide) (by rw [e]; decide) (by rw [e]; rfl) (by decide) ?_
        refine A_aload_n dX6_counts_49 rfl ?_
        refine A_iload_n dX6_counts_50 rfl ?_
        refine A_callVi (a_X6_isReadAtAll (l := l) fu _ _ ) lc_X6_110 rfl rfl (by decide) (Nat.le_of_ble_eq_true rfl) rfl dX6_counts_51 (fun q3 Mq3 hq3 => ?_)
        refine A_if_eq (tgt := 70) dX6_counts_54 (by decide) (fun _ => ?_) (fun _ => ?_)
        · refine A_iconst (v := (0 : Int32)) dX6_counts_70 oI_0 ?_
          exact A_zret' rfl (Or.inl rfl) dX6_counts_71
        · refine A_aload_n dX6_counts_57 rfl ?_
          refine A_iload_n dX6_counts_58 rfl ?_
          refine A_callVi (a_X6_agreedName (l := l) fu _ _ ) lc_X6_114 rfl rfl (by decide) (Nat.le_of_ble_eq_true rfl) rfl dX6_counts_59 (fun q4 Mq4 hq4 => ?_)
          refine A_iconst (v := (-1 : Int32)) dX6_counts_62 oI_m1 ?_
          refine A_icmp_ne (tgt := 70) dX6_counts_63 (by decide) (fun _ => ?_) (fun _ => ?_)
          · refine A_iconst (v := (1 : Int32)) dX6_counts_66 oI_1 ?_
            refine A_goto (tgt := 71) dX6_counts_67 (by decide) ?_
            exact A_zret' rfl (Or.inr rfl) dX6_counts_71
          · refine A_iconst (v := (0 : Int32)) dX6_counts_70 oI_0 ?_
            exact A_zret' rfl (Or.inl rfl) dX6_counts_71
      · refine A_tableOut (tgt := 72) dX6_counts_1 (by have z0 := xne (k := 0) (by decide) e0; have z1 := xne (k := 1) (by decide) e1; have z2 := xne (k := 2) (by decide) e2; omega) (by decide) ?_
        refine A_aload_n dX6_counts_72 rfl ?_
        refine A_iload_n dX6_counts_73 rfl ?_
        refine A_callVi (a_X6_isUnlike (l := l) fu _ _ ) lc_X6_117 rfl rfl (by decide) (Nat.le_of_ble_eq_true rfl) rfl dX6_counts_74 (fun q5 Mq5 hq5 => ?_)
        exact A_zret rfl dX6_counts_77
theorem a_X6_counts {l : Launch} (fu : Nat)  (x1 : Int32) (x2 : Int32) (M : xM)  : AM SC l yX6_counts cX6_counts 3 (some .boolean) 4 ki [xr 9, xi x1, xi x2] M (F_X6_counts fu x1 x2  M) :=
  AM.of (L0 := [some (xr 9), some (xi x1), some (xi x2)]) (w_X6_counts (l := l) fu x1 x2  M ) (by decide +kernel) rfl (Nat.le_of_ble_eq_true rfl) ⟨rfl, rfl, rfl, trivial⟩
def F_X6_howMany_b22 (fu : Nat)  (x1 : Int32) (k4 : Int32 → Int32 → xM → Option (Int32 × xM)) (x2 : Int32) (x3 : Int32) (M : xM) : Option (Int32 × xM) :=
  k4 x2 (x3 + (1 : Int32)) M
set_option maxRecDepth 100000 in
set_option maxHeartbeats 4000000 in
theorem a_X6_howMany_b22 {l : Launch} (fu : Nat) (x1 : Int32)  {k4 : Int32 → Int32 → xM → Option (Int32 × xM)} (hk4 : ∀ (b0 : Int32) (b1 : Int32) (M : xM), AW SC l RX6 cX6_howMany 4 (some .int) 5 ki (k4 b0 b1 M) 4 [some (xr 9), some (xi x1), some (xi b0), some (xi b1)] [] M) (x2 : Int32) (x3 : Int32) (M : xM)  : AW SC l RX6 cX6_howMany 4 (some .int) 5 ki (F_X6_howMany_b22 fu x1 k4 x2 x3 M) 22 [some (xr 9), some (xi x1), some (xi x2), some (xi x3)] [] M := by
  unfold F_X6_howMany_b22
  refine A_iinc dX6_howMany_22 rfl oI_1 (Nat.le_of_ble_eq_true rfl) rfl ?_
  refine A_goto (tgt := 4) dX6_howMany_25 (by decide) ?_
  exact (hk4 _ _ _).sub ⟨rfl, rfl, rfl, rfl, trivial⟩
def F_X6_howMany_b4 (fu : Nat)  (x1 : Int32)  : Nat → Int32 → Int32 → xM → Option (Int32 × xM)
  | 0, _, _, _ => none
  | n + 1, x2, x3, M =>
    (if (30 : Int32) ≤ x3 then
    some (x2, M)
    else
    (F_X6_counts fu x3 x1 M).bind fun q1 =>
    (if q1.1 = 0 then
    F_X6_howMany_b22 fu x1 (F_X6_howMany_b4 fu x1 n) x2 x3 q1.2
    else
    F_X6_howMany_b22 fu x1 (F_X6_howMany_b4 fu x1 n) (x2 + (1 : Int32)) x3 q1.2))
set_option maxRecDepth 100000 in
set_option maxHeartbeats 4000000 in
theorem a_X6_howMany_b4 {l : Launch} (fu : Nat) (x1 : Int32)    : ∀ (n : Nat) (x2 : Int32) (x3 : Int32) (M : xM), AW SC l RX6 cX6_howMany 4 (some .int) 5 ki (F_X6_howMany_b4 fu x1 n x2 x3 M) 4 [some (xr 9), some (xi x1), some (xi x2), some (xi x3)] [] M := by
  intro n
  induction n with
  | zero =>
    intro x2 x3 M
    exact AW.none
  | succ n ih =>
    intro x2 x3 M
    rw [F_X6_howMany_b4]
    refine A_iload_n dX6_howMany_4 rfl ?_
    refine A_bipush (v := (30 : Int32)) dX6_howMany_5 oB_30 ?_
    refine A_icmp_ge (tgt := 28) dX6_howMany_7 (by decide) (fun _ => ?_) (fun _ => ?_)
    · refine A_iload_n dX6_howMany_28 rfl ?_
      exact A_iret rfl dX6_howMany_29
    · refine A_aload_n dX6_howMany_10 rfl ?_
      refine A_iload_n dX6_howMany_11 rfl ?_
      refine A_iload_n dX6_howMany_12 rfl ?_
      refine A_callVi (a_X6_counts (l := l) fu _ _ _ ) lc_X6_120 rfl rfl (by decide) (Nat.le_of_ble_eq_true rfl) rfl dX6_howMany_13 (fun q1 Mq1 hq1 => ?_)
      refine A_if_eq (tgt := 22) dX6_howMany_16 (by decide) (fun _ => ?_) (fun _ => ?_)
      · exact (a_X6_howMany_b22 (l := l) fu x1 ih _ _ _ ).sub ⟨rfl, rfl, rfl, rfl, trivial⟩
      · refine A_iinc dX6_howMany_19 rfl oI_1 (Nat.le_of_ble_eq_true rfl) rfl ?_
        exact (a_X6_howMany_b22 (l := l) fu x1 ih _ _ _ ).sub ⟨rfl, rfl, rfl, rfl, trivial⟩
def F_X6_howMany (fu : Nat)  (x1 : Int32)   (M : xM) : Option (Int32 × xM) :=
  F_X6_howMany_b4 fu x1 fu (0 : Int32) (0 : Int32) M
set_option maxRecDepth 100000 in
set_option maxHeartbeats 4000000 in
theorem w_X6_howMany {l : Launch} (fu : Nat) (x1 : Int32)     (M : xM)  : AW SC l RX6 cX6_howMany 4 (some .int) 5 ki (F_X6_howMany fu x1  M) 0 [some (xr 9), some (xi x1), none, none] [] M := by
  unfold F_X6_howMany
  refine A_iconst (v := (0 : Int32)) dX6_howMany_0 oI_0 ?_
  refine A_istore_n dX6_howMany_1 (Nat.le_of_ble_eq_true rfl) rfl ?_
  refine A_iconst (v := (0 : Int32)) dX6_howMany_2 oI_0 ?_
  refine A_istore_n dX6_howMany_3 (Nat.le_of_ble_eq_true rfl) rfl ?_
  exact (a_X6_howMany_b4 (l := l) fu x1  fu _ _ _).sub ⟨rfl, rfl, rfl, rfl, trivial⟩
theorem a_X6_howMany {l : Launch} (fu : Nat)  (x1 : Int32) (M : xM)  : AM SC l yX6_howMany cX6_howMany 4 (some .int) 5 ki [xr 9, xi x1] M (F_X6_howMany fu x1  M) :=
  AM.of (L0 := [some (xr 9), some (xi x1), none, none]) (w_X6_howMany (l := l) fu x1  M ) (by decide +kernel) rfl (Nat.le_of_ble_eq_true rfl) ⟨rfl, rfl, trivial⟩
def F_X6_sureFor_b22 (fu : Nat)  (x1 : Int32) (k4 : Int32 → Int32 → xM → Option (Int32 × xM)) (x2 : Int32) (x3 : Int32) (M : xM) : Option (Int32 × xM) :=
  k4 x2 (x3 + (1 : Int32)) M
set_option maxRecDepth 100000 in
set_option maxHeartbeats 4000000 in
theorem a_X6_sureFor_b22 {l : Launch} (fu : Nat) (x1 : Int32)  {k4 : Int32 → Int32 → xM → Option (Int32 × xM)} (hk4 : ∀ (b0 : Int32) (b1 : Int32) (M : xM), AW SC l RX6 cX6_sureFor 4 (some .int) 4 ki (k4 b0 b1 M) 4 [some (xr 9), some (xi x1), some (xi b0), some (xi b1)] [] M) (x2 : Int32) (x3 : Int32) (M : xM)  : AW SC l RX6 cX6_sureFor 4 (some .int) 4 ki (F_X6_sureFor_b22 fu x1 k4 x2 x3 M) 22 [some (xr 9), some (xi x1), some (xi x2), some (xi x3)] [] M := by
  unfold F_X6_sureFor_b22
  refine A_iinc dX6_sureFor_22 rfl oI_1 (Nat.le_of_ble_eq_true rfl) rfl ?_
  refine A_goto (tgt := 4) dX6_sureFor_25 (by decide) ?_
  exact (hk4 _ _ _).sub ⟨rfl, rfl, rfl, rfl, trivial⟩
def F_X6_sureFor_b4 (fu : Nat)  (x1 : Int32)  : Nat → Int32 → Int32 → xM → Option (Int32 × xM)
  | 0, _, _, _ => none
  | n + 1, x2, x3, M =>
    (if (30 : Int32) ≤ x3 then
    some (x2, M)
    else
    (F_X6_agreedName fu x3 M).bind fun q1 =>
    (if q1.1 = x1 then
    F_X6_sureFor_b22 fu x1 (F_X6_sureFor_b4 fu x1 n) (x2 + (1 : Int32)) x3 q1.2
    else
    F_X6_sureFor_b22 fu x1 (F_X6_sureFor_b4 fu x1 n) x2 x3 q1.2))
set_option maxRecDepth 100000 in
set_option maxHeartbeats 4000000 in
theorem a_X6_sureFor_b4 {l : Launch} (fu : Nat) (x1 : Int32)    : ∀ (n : Nat) (x2 : Int32) (x3 : Int32) (M : xM), AW SC l RX6 cX6_sureFor 4 (some .int) 4 ki (F_X6_sureFor_b4 fu x1 n x2 x3 M) 4 [some (xr 9), some (xi x1), some (xi x2), some (xi x3)] [] M := by
  intro n
  induction n with
  | zero =>
    intro x2 x3 M
    exact AW.none
  | succ n ih =>
    intro x2 x3 M
    rw [F_X6_sureFor_b4]
    refine A_iload_n dX6_sureFor_4 rfl ?_
    refine A_bipush (v := (30 : Int32)) dX6_sureFor_5 oB_30 ?_
    refine A_icmp_ge (tgt := 28) dX6_sureFor_7 (by decide) (fun _ => ?_) (fun _ => ?_)
    · refine A_iload_n dX6_sureFor_28 rfl ?_
      exact A_iret rfl dX6_sureFor_29
    · refine A_aload_n dX6_sureFor_10 rfl ?_
      refine A_iload_n dX6_sureFor_11 rfl ?_
      refine A_callVi (a_X6_agreedName (l := l) fu _ _ ) lc_X6_114 rfl rfl (by decide) (Nat.le_of_ble_eq_true rfl) rfl dX6_sureFor_12 (fun q1 Mq1 hq1 => ?_)
      refine A_iload_n dX6_sureFor_15 rfl ?_
      refine A_icmp_ne (tgt := 22) dX6_sureFor_16 (by decide) (fun _ => ?_) (fun _ => ?_)
      · refine A_iinc dX6_sureFor_19 rfl oI_1 (Nat.le_of_ble_eq_true rfl) rfl ?_
        exact (a_X6_sureFor_b22 (l := l) fu x1 ih _ _ _ ).sub ⟨rfl, rfl, rfl, rfl, trivial⟩
      · exact (a_X6_sureFor_b22 (l := l) fu x1 ih _ _ _ ).sub ⟨rfl, rfl, rfl, rfl, trivial⟩
def F_X6_sureFor (fu : Nat)  (x1 : Int32)   (M : xM) : Option (Int32 × xM) :=
  F_X6_sureFor_b4 fu x1 fu (0 : Int32) (0 : Int32) M
set_option maxRecDepth 100000 in
set_option maxHeartbeats 4000000 in
theorem w_X6_sureFor {l : Launch} (fu : Nat) (x1 : Int32)     (M : xM)  : AW SC l RX6 cX6_sureFor 4 (some .int) 4 ki (F_X6_sureFor fu x1  M) 0 [some (xr 9), some (xi x1), none, none] [] M := by
  unfold F_X6_sureFor
  refine A_iconst (v := (0 : Int32)) dX6_sureFor_0 oI_0 ?_
  refine A_istore_n dX6_sureFor_1 (Nat.le_of_ble_eq_true rfl) rfl ?_
  refine A_iconst (v := (0 : Int32)) dX6_sureFor_2 oI_0 ?_
  refine A_istore_n dX6_sureFor_3 (Nat.le_of_ble_eq_true rfl) rfl ?_
  exact (a_X6_sureFor_b4 (l := l) fu x1  fu _ _ _).sub ⟨rfl, rfl, rfl, rfl, trivial⟩
theorem a_X6_sureFor {l : Launch} (fu : Nat)  (x1 : Int32) (M : xM)  : AM SC l yX6_sureFor cX6_sureFor 4 (some .int) 4 ki [xr 9, xi x1] M (F_X6_sureFor fu x1  M) :=
  AM.of (L0 := [some (xr 9), some (xi x1), none, none]) (w_X6_sureFor (l := l) fu x1  M ) (by decide +kernel) rfl (Nat.le_of_ble_eq_true rfl) ⟨rfl, rfl, trivial⟩
def F_X6_mayBeFor_b31 (fu : Nat)  (x1 : Int32) (x2 : Int32) (k2 : Int32 → xM → Option (Int32 × xM)) (x3 : Int32) (M : xM) : Option (Int32 × xM) :=
  k2 (x3 + (1 : Int32)) M
set_option maxRecDepth 100000 in
set_option maxHeartbeats 4000000 in
theorem a_X6_mayBeFor_b31 {l : Launch} (fu : Nat) (x1 : Int32) (x2 : Int32)  {k2 : Int32 → xM → Option (Int32 × xM)} (hk2 : ∀ (b0 : Int32) (M : xM), AW SC l RX6 cX6_mayBeFor 4 (some .boolean) 3 ki (k2 b0 M) 2 [some (xr 9), some (xi x1), some (xi x2), some (xi b0)] [] M) (x3 : Int32) (M : xM)  : AW SC l RX6 cX6_mayBeFor 4 (some .boolean) 3 ki (F_X6_mayBeFor_b31 fu x1 x2 k2 x3 M) 31 [some (xr 9), some (xi x1), some (xi x2), some (xi x3)] [] M := by
  unfold F_X6_mayBeFor_b31
  refine A_iinc dX6_mayBeFor_31 rfl oI_1 (Nat.le_of_ble_eq_true rfl) rfl ?_
  refine A_goto (tgt := 2) dX6_mayBeFor_34 (by decide) ?_
  exact (hk2 _ _).sub ⟨rfl, rfl, rfl, rfl, trivial⟩
def F_X6_mayBeFor_b2 (fu : Nat)  (x1 : Int32) (x2 : Int32)  : Nat → Int32 → xM → Option (Int32 × xM)
  | 0, _, _ => none
  | n + 1, x3, M =>
    (if (4 : Int32) ≤ x3 then
    some ((0 : Int32), M)
    else
    (if (P_X6_isRead x3 x1 M) = 0 then
    F_X6_mayBeFor_b31 fu x1 x2 (F_X6_mayBeFor_b2 fu x1 x2 n) x3 M
    else
    (F_X6_nearest fu x3 x1 M).bind fun q1 =>
    (if (P_X1_has q1.1 x2 q1.2) = 0 then
    F_X6_mayBeFor_b31 fu x1 x2 (F_X6_mayBeFor_b2 fu x1 x2 n) x3 q1.2
    else
    some ((1 : Int32), q1.2))))
set_option maxRecDepth 100000 in
set_option maxHeartbeats 4000000 in
theorem a_X6_mayBeFor_b2 {l : Launch} (fu : Nat) (x1 : Int32) (x2 : Int32)    : ∀ (n : Nat) (x3 : Int32) (M : xM), AW SC l RX6 cX6_mayBeFor 4 (some .boolean) 3 ki (F_X6_mayBeFor_b2 fu x1 x2 n x3 M) 2 [some (xr 9), some (xi x1), some (xi x2), some (xi x3)] [] M := by
  intro n
  induction n with
  | zero =>
    intro x3 M
    exact AW.none
  | succ n ih =>
    intro x3 M
    rw [F_X6_mayBeFor_b2]
    refine A_iload_n dX6_mayBeFor_2 rfl ?_
    refine A_iconst (v := (4 : Int32)) dX6_mayBeFor_3 oI_4 ?_
    refine A_icmp_ge (tgt := 37) dX6_mayBeFor_4 (by decide) (fun _ => ?_) (fun _ => ?_)
    · refine A_iconst (v := (0 : Int32)) dX6_mayBeFor_37 oI_0 ?_
      exact A_zret' rfl (Or.inl rfl) dX6_mayBeFor_38
    · refine A_aload_n dX6_mayBeFor_7 rfl ?_
      refine A_iload_n dX6_mayBeFor_8 rfl ?_
      refine A_iload_n dX6_mayBeFor_9 rfl ?_
      refine A_callVp (a_X6_isRead (l := l) _ _ _ ) lc_X6_92 rfl rfl (by decide) (Nat.le_of_ble_eq_true rfl) rfl dX6_mayBeFor_10 ?_
      refine A_if_eq (tgt := 31) dX6_mayBeFor_13 (by decide) (fun _ => ?_) (fun _ => ?_)
      · exact (a_X6_mayBeFor_b31 (l := l) fu x1 x2 ih _ _ ).sub ⟨rfl, rfl, rfl, rfl, trivial⟩
      · refine A_aload_n dX6_mayBeFor_16 rfl ?_
        refine A_iload_n dX6_mayBeFor_17 rfl ?_
        refine A_iload_n dX6_mayBeFor_18 rfl ?_
        refine A_callVi (a_X6_nearest (l := l) fu _ _ _ ) lc_X6_99 rfl rfl (by decide) (Nat.le_of_ble_eq_true rfl) rfl dX6_mayBeFor_19 (fun q1 Mq1 hq1 => ?_)
        refine A_iload_n dX6_mayBeFor_22 rfl ?_
        refine A_callSp (a_X1_has (S := SC) (l := l) _ _ _ ) lc_X6_126 rfl (by decide) (Nat.le_of_ble_eq_true rfl) rfl dX6_mayBeFor_23 ?_
        refine A_if_eq (tgt := 31) dX6_mayBeFor_26 (by decide) (fun _ => ?_) (fun _ => ?_)
        · exact (a_X6_mayBeFor_b31 (l := l) fu x1 x2 ih _ _ ).sub ⟨rfl, rfl, rfl, rfl, trivial⟩
        · refine A_iconst (v := (1 : Int32)) dX6_mayBeFor_29 oI_1 ?_
          exact A_zret' rfl (Or.inr rfl) dX6_mayBeFor_30
def F_X6_mayBeFor (fu : Nat)  (x1 : Int32) (x2 : Int32)   (M : xM) : Option (Int32 × xM) :=
  F_X6_mayBeFor_b2 fu x1 x2 fu (0 : Int32) M
set_option maxRecDepth 100000 in
set_option maxHeartbeats 4000000 in
theorem w_X6_mayBeFor {l : Launch} (fu : Nat) (x1 : Int32) (x2 : Int32)     (M : xM)  : AW SC l RX6 cX6_mayBeFor 4 (some .boolean) 3 ki (F_X6_mayBeFor fu x1 x2  M) 0 [some (xr 9), some (xi x1), some (xi x2), none] [] M := by
  unfold F_X6_mayBeFor
  refine A_iconst (v := (0 : Int32)) dX6_mayBeFor_0 oI_0 ?_
  refine A_istore_n dX6_mayBeFor_1 (Nat.le_of_ble_eq_true rfl) rfl ?_
  exact (a_X6_mayBeFor_b2 (l := l) fu x1 x2  fu _ _).sub ⟨rfl, rfl, rfl, rfl, trivial⟩
theorem a_X6_mayBeFor {l : Launch} (fu : Nat)  (x1 : Int32) (x2 : Int32) (M : xM)  : AM SC l yX6_mayBeFor cX6_mayBeFor 4 (some .boolean) 3 ki [xr 9, xi x1, xi x2] M (F_X6_mayBeFor fu x1 x2  M) :=
  AM.of (L0 := [some (xr 9), some (xi x1), some (xi x2), none]) (w_X6_mayBeFor (l := l) fu x1 x2  M ) (by decide +kernel) rfl (Nat.le_of_ble_eq_true rfl) ⟨rfl, rfl, rfl, trivial⟩
def F_X6_mostFor_b22 (fu : Nat)  (x1 : Int32) (k4 : Int32 → Int32 → xM → Option (Int32 × xM)) (x2 : Int32) (x3 : Int32) (M : xM) : Option (Int32 × xM) :=
  k4 x2 (x3 + (1 : Int32)) M
set_option maxRecDepth 100000 in
set_option maxHeartbeats 4000000 in
theorem a_X6_mostFor_b22 {l : Launch} (fu : Nat) (x1 : Int32)  {k4 : Int32 → Int32 → xM → Option (Int32 × xM)} (hk4 : ∀ (b0 : Int32) (b1 : Int32) (M : xM), AW SC l RX6 cX6_mostFor 4 (some .int) 4 ki (k4 b0 b1 M) 4 [some (xr 9), some (xi x1), some (xi b0), some (xi b1)] [] M) (x2 : Int32) (x3 : Int32) (M : xM)  : AW SC l RX6 cX6_mostFor 4 (some .int) 4 ki (F_X6_mostFor_b22 fu x1 k4 x2 x3 M) 22 [some (xr 9), some (xi x1), some (xi x2), some (xi x3)] [] M := by
  unfold F_X6_mostFor_b22
  refine A_iinc dX6_mostFor_22 rfl oI_1 (Nat.le_of_ble_eq_true rfl) rfl ?_
  refine A_goto (tgt := 4) dX6_mostFor_25 (by decide) ?_
  exact (hk4 _ _ _).sub ⟨rfl, rfl, rfl, rfl, trivial⟩
def F_X6_mostFor_b4 (fu : Nat)  (x1 : Int32)  : Nat → Int32 → Int32 → xM → Option (Int32 × xM)
  | 0, _, _, _ => none
  | n + 1, x2, x3, M =>
    (if (30 : Int32) ≤ x3 then
    some (x2, M)
    else
    (F_X6_mayBeFor fu x3 x1 M).bind fun q1 =>
    (if q1.1 = 0 then
    F_X6_mostFor_b22 fu x1 (F_X6_mostFor_b4 fu x1 n) x2 x3 q1.2
    else
    F_X6_mostFor_b22 fu x1 (F_X6_mostFor_b4 fu x1 n) (x2 + (1 : Int32)) x3 q1.2))
set_option maxRecDepth 100000 in
set_option maxHeartbeats 4000000 in
theorem a_X6_mostFor_b4 {l : Launch} (fu : Nat) (x1 : Int32)    : ∀ (n : Nat) (x2 : Int32) (x3 : Int32) (M : xM), AW SC l RX6 cX6_mostFor 4 (some .int) 4 ki (F_X6_mostFor_b4 fu x1 n x2 x3 M) 4 [some (xr 9), some (xi x1), some (xi x2), some (xi x3)] [] M := by
  intro n
  induction n with
  | zero =>
    intro x2 x3 M
    exact AW.none
  | succ n ih =>
    intro x2 x3 M
    rw [F_X6_mostFor_b4]
    refine A_iload_n dX6_mostFor_4 rfl ?_
    refine A_bipush (v := (30 : Int32)) dX6_mostFor_5 oB_30 ?_
    refine A_icmp_ge (tgt := 28) dX6_mostFor_7 (by decide) (fun _ => ?_) (fun _ => ?_)
    · refine A_iload_n dX6_mostFor_28 rfl ?_
      exact A_iret rfl dX6_mostFor_29
    · refine A_aload_n dX6_mostFor_10 rfl ?_
      refine A_iload_n dX6_mostFor_11 rfl ?_
      refine A_iload_n dX6_mostFor_12 rfl ?_
      refine A_callVi (a_X6_mayBeFor (l := l) fu _ _ _ ) lc_X6_123 rfl rfl (by decide) (Nat.le_of_ble_eq_true rfl) rfl dX6_mostFor_13 (fun q1 Mq1 hq1 => ?_)
      refine A_if_eq (tgt := 22) dX6_mostFor_16 (by decide) (fun _ => ?_) (fun _ => ?_)
      · exact (a_X6_mostFor_b22 (l := l) fu x1 ih _ _ _ ).sub ⟨rfl, rfl, rfl, rfl, trivial⟩
      · refine A_iinc dX6_mostFor_19 rfl oI_1 (Nat.le_of_ble_eq_true rfl) rfl ?_
        exact (a_X6_mostFor_b22 (l := l) fu x1 ih _ _ _ ).sub ⟨rfl, rfl, rfl, rfl, trivial⟩
def F_X6_mostFor (fu : Nat)  (x1 : Int32)   (M : xM) : Option (Int32 × xM) :=
  F_X6_mostFor_b4 fu x1 fu (0 : Int32) (0 : Int32) M
set_option maxRecDepth 100000 in
set_option maxHeartbeats 4000000 in
theorem w_X6_mostFor {l : Launch} (fu : Nat) (x1 : Int32)     (M : xM)  : AW SC l RX6 cX6_mostFor 4 (some .int) 4 ki (F_X6_mostFor fu x1  M) 0 [some (xr 9), some (xi x1), none, none] [] M := by
  unfold F_X6_mostFor
  refine A_iconst (v := (0 : Int32)) dX6_mostFor_0 oI_0 ?_
  refine A_istore_n dX6_mostFor_1 (Nat.le_of_ble_eq_true rfl) rfl ?_
  refine A_iconst (v := (0 : Int32)) dX6_mostFor_2 oI_0 ?_
  refine A_istore_n dX6_mostFor_3 (Nat.le_of_ble_eq_true rfl) rfl ?_
  exact (a_X6_mostFor_b4 (l := l) fu x1  fu _ _ _).sub ⟨rfl, rfl, rfl, rfl, trivial⟩
theorem a_X6_mostFor {l : Launch} (fu : Nat)  (x1 : Int32) (M : xM)  : AM SC l yX6_mostFor cX6_mostFor 4 (some .int) 4 ki [xr 9, xi x1] M (F_X6_mostFor fu x1  M) :=
  AM.of (L0 := [some (xr 9), some (xi x1), none, none]) (w_X6_mostFor (l := l) fu x1  M ) (by decide +kernel) rfl (Nat.le_of_ble_eq_true rfl) ⟨rfl, rfl, trivial⟩
def F_X6_isAboveOthers_b32 (fu : Nat)  (x1 : Int32) (k8 : Int32 → Int32 → xM → Option (Int32 × xM)) (x2 : Int32) (x3 : Int32) (M : xM) : Option (Int32 × xM) :=
  k8 x2 (x3 + (1 : Int32)) M
set_option maxRecDepth 100000 in
set_option maxHeartbeats 4000000 in
theorem a_X6_isAboveOthers_b32 {l : Launch} (fu : Nat) (x1 : Int32)  {k8 : Int32 → Int32 → xM → Option (Int32 × xM)} (hk8 : ∀ (b0 : Int32) (b1 : Int32) (M : xM), AW SC l RX6 cX6_isAboveOthers 4 (some .boolean) 5 ki (k8 b0 b1 M) 8 [some (xr 9), some (xi x1), some (xi b0), some (xi b1)] [] M) (x2 : Int32) (x3 : Int32) (M : xM)  : AW SC l RX6 cX6_isAboveOthers 4 (some .boolean) 5 ki (F_X6_isAboveOthers_b32 fu x1 k8 x2 x3 M) 32 [some (xr 9), some (xi x1), some (xi x2), some (xi x3)] [] M := by
  unfold F_X6_isAboveOthers_b32
  refine A_iinc dX6_isAboveOthers_32 rfl oI_1 (Nat.le_of_ble_eq_true rfl) rfl ?_
  refine A_goto (tgt := 8) dX6_isAboveOthers_35 (by decide) ?_
  exact (hk8 _ _ _).sub ⟨rfl, rfl, rfl, rfl, trivial⟩
def F_X6_isAboveOthers_b8 (fu : Nat)  (x1 : Int32)  : Nat → Int32 → Int32 → xM → Option (Int32 × xM)
  | 0, _, _, _ => none
  | n + 1, x2, x3, M =>
    (if (M 9 0) ≤ x3 then
    some ((1 : Int32), M)
    else
    (if x3 = x1 then
    F_X6_isAboveOthers_b32 fu x1 (F_X6_isAboveOthers_b8 fu x1 n) x2 x3 M
    else
    (F_X6_mostFor fu x3 M).bind fun q1 =>
    (if q1.1 < x2 then
    F_X6_isAboveOthers_b32 fu x1 (F_X6_isAboveOthers_b8 fu x1 n) x2 x3 q1.2
    else
    some ((0 : Int32), q1.2))))
set_option maxRecDepth 100000 in
set_option maxHeartbeats 4000000 in
theorem a_X6_isAboveOthers_b8 {l : Launch} (fu : Nat) (x1 : Int32)    : ∀ (n : Nat) (x2 : Int32) (x3 : Int32) (M : xM), AW SC l RX6 cX6_isAboveOthers 4 (some .boolean) 5 ki (F_X6_isAboveOthers_b8 fu x1 n x2 x3 M) 8 [some (xr 9), some (xi x1), some (xi x2), some (xi x3)] [] M := by
  intro n
  induction n with
  | zero =>
    intro x2 x3 M
    exact AW.none
  | succ n ih =>
    intro x2 x3 M
    rw [F_X6_isAboveOthers_b8]
    refine A_iload_n dX6_isAboveOthers_8 rfl ?_
    refine A_aload_n dX6_isAboveOthers_9 rfl ?_
    refine A_geti lf_X6_34 rfl rfl dX6_isAboveOthers_10 ?_
    refine A_icmp_ge (tgt := 38) dX6_isAboveOthers_13 (by decide) (fun _ => ?_) (fun _ => ?_)
    · refine A_iconst (v := (1 : Int32)) dX6_isAboveOthers_38 oI_1 ?_
      exact A_zret' rfl (Or.inr rfl) dX6_isAboveOthers_39
    · refine A_iload_n dX6_isAboveOthers_16 rfl ?_
      refine A_iload_n dX6_isAboveOthers_17 rfl ?_
      refine A_icmp_eq (tgt := 32) dX6_isAboveOthers_18 (by decide) (fun _ => ?_) (fun _ => ?_)
      · exact (a_X6_isAboveOthers_b32 (l := l) fu x1 ih _ _ _ ).sub ⟨rfl, rfl, rfl, rfl, trivial⟩
      · refine A_aload_n dX6_isAboveOthers_21 rfl ?_
        refine A_iload_n dX6_isAboveOthers_22 rfl ?_
        refine A_callVi (a_X6_mostFor (l := l) fu _ _ ) lc_X6_135 rfl rfl (by decide) (Nat.le_of_ble_eq_true rfl) rfl dX6_isAboveOthers_23 (fun q1 Mq1 hq1 => ?_)
        refine A_iload_n dX6_isAboveOthers_26 rfl ?_
        refine A_icmp_lt (tgt := 32) dX6_isAboveOthers_27 (by decide) (fun _ => ?_) (fun _ => ?_)
        · exact (a_X6_isAboveOthers_b32 (l := l) fu x1 ih _ _ _ ).sub ⟨rfl, rfl, rfl, rfl, trivial⟩
        · refine A_iconst (v := (0 : Int32)) dX6_isAboveOthers_30 oI_0 ?_
          exact A_zret' rfl (Or.inl rfl) dX6_isAboveOthers_31
def F_X6_isAboveOthers (fu : Nat)  (x1 : Int32)   (M : xM) : Option (Int32 × xM) :=
  (F_X6_sureFor fu x1 M).bind fun q1 =>
  F_X6_isAboveOthers_b8 fu x1 fu q1.1 (0 : Int32) q1.2
set_option maxRecDepth 100000 in
set_option maxHeartbeats 4000000 in
theorem w_X6_isAboveOthers {l : Launch} (fu : Nat) (x1 : Int32)     (M : xM)  : AW SC l RX6 cX6_isAboveOthers 4 (some .boolean) 5 ki (F_X6_isAboveOthers fu x1  M) 0 [some (xr 9), some (xi x1), none, none] [] M := by
  unfold F_X6_isAboveOthers
  refine A_aload_n dX6_isAboveOthers_0 rfl ?_
  refine A_iload_n dX6_isAboveOthers_1 rfl ?_
  refine A_callVi (a_X6_sureFor (l := l) fu _ _ ) lc_X6_132 rfl rfl (by decide) (Nat.le_of_ble_eq_true rfl) rfl dX6_isAboveOthers_2 (fun q1 Mq1 hq1 => ?_)
  refine A_istore_n dX6_isAboveOthers_5 (Nat.le_of_ble_eq_true rfl) rfl ?_
  refine A_iconst (v := (0 : Int32)) dX6_isAboveOthers_6 oI_0 ?_
  refine A_istore_n dX6_isAboveOthers_7 (Nat.le_of_ble_eq_true rfl) rfl ?_
  exact (a_X6_isAboveOthers_b8 (l := l) fu x1  fu _ _ _).sub ⟨rfl, rfl, rfl, rfl, trivial⟩
theorem a_X6_isAboveOthers {l : Launch} (fu : Nat)  (x1 : Int32) (M : xM)  : AM SC l yX6_isAboveOthers cX6_isAboveOthers 4 (some .boolean) 5 ki [xr 9, xi x1] M (F_X6_isAboveOthers fu x1  M) :=
  AM.of (L0 := [some (xr 9), some (xi x1), none, none]) (w_X6_isAboveOthers (l := l) fu x1  M ) (by decide +kernel) rfl (Nat.le_of_ble_eq_true rfl) ⟨rfl, rfl, trivial⟩
def F_X6_sureWinner_b2 (fu : Nat)    : Nat → Int32 → xM → Option (Int32 × xM)
  | 0, _, _ => none
  | n + 1, x1, M =>
    (if (M 9 0) ≤ x1 then
    some ((-1 : Int32), M)
    else
    (F_X6_isAboveOthers fu x1 M).bind fun q1 =>
    (if q1.1 = 0 then
    F_X6_sureWinner_b2 fu n (x1 + (1 : Int32)) q1.2
    else
    some (x1, q1.2)))
set_option maxRecDepth 100000 in
set_option maxHeartbeats 4000000 in
theorem a_X6_sureWinner_b2 {l : Launch} (fu : Nat)     : ∀ (n : Nat) (x1 : Int32) (M : xM), AW SC l RX6 cX6_sureWinner 2 (some .int) 6 ki (F_X6_sureWinner_b2 fu n x1 M) 2 [some (xr 9), some (xi x1)] [] M := by
  intro n
  induction n with
  | zero =>
    intro x1 M
    exact AW.none
  | succ n ih =>
    intro x1 M
    rw [F_X6_sureWinner_b2]
    refine A_iload_n dX6_sureWinner_2 rfl ?_
    refine A_aload_n dX6_sureWinner_3 rfl ?_
    refine A_geti lf_X6_34 rfl rfl dX6_sureWinner_4 ?_
    refine A_icmp_ge (tgt := 26) dX6_sureWinner_7 (by decide) (fun _ => ?_) (fun _ => ?_)
    · refine A_iconst (v := (-1 : Int32)) dX6_sureWinner_26 oI_m1 ?_
      exact A_iret rfl dX6_sureWinner_27
    · refine A_aload_n dX6_sureWinner_10 rfl ?_
      refine A_iload_n dX6_sureWinner_11 rfl ?_
      refine A_callVi (a_X6_isAboveOthers (l := l) fu _ _ ) lc_X6_129 rfl rfl (by decide) (Nat.le_of_ble_eq_true rfl) rfl dX6_sureWinner_12 (fun q1 Mq1 hq1 => ?_)
      refine A_if_eq (tgt := 20) dX6_sureWinner_15 (by decide) (fun _ => ?_) (fun _ => ?_)
      · refine A_iinc dX6_sureWinner_20 rfl oI_1 (Nat.le_of_ble_eq_true rfl) rfl ?_
        refine A_goto (tgt := 2) dX6_sureWinner_23 (by decide) ?_
        exact (ih _ _).sub ⟨rfl, rfl, trivial⟩
      · refine A_iload_n dX6_sureWinner_18 rfl ?_
        exact A_iret rfl dX6_sureWinner_19
def F_X6_sureWinner (fu : Nat)     (M : xM) : Option (Int32 × xM) :=
  F_X6_sureWinner_b2 fu fu (0 : Int32) M
set_option maxRecDepth 100000 in
set_option maxHeartbeats 4000000 in
theorem w_X6_sureWinner {l : Launch} (fu : Nat)      (M : xM)  : AW SC l RX6 cX6_sureWinner 2 (some .int) 6 ki (F_X6_sureWinner fu  M) 0 [some (xr 9), none] [] M := by
  unfold F_X6_sureWinner
  refine A_iconst (v := (0 : Int32)) dX6_sureWinner_0 oI_0 ?_
  refine A_istore_n dX6_sureWinner_1 (Nat.le_of_ble_eq_true rfl) rfl ?_
  exact (a_X6_sureWinner_b2 (l := l) fu  fu _ _).sub ⟨rfl, rfl, trivial⟩
theorem a_X6_sureWinner {l : Launch} (fu : Nat)   (M : xM)  : AM SC l yX6_sureWinner cX6_sureWinner 2 (some .int) 6 ki [xr 9] M (F_X6_sureWinner fu   M) :=
  AM.of (L0 := [some (xr 9), none]) (w_X6_sureWinner (l := l) fu  M ) (by decide +kernel) rfl (Nat.le_of_ble_eq_true rfl) ⟨rfl, trivial⟩
