theorem oS_1024 : (Int16.ofInt (1024)).toInt32 = (1024 : Int32) := by decide +kernel
theorem lf_X12_13 : xfl RX12 13 11 3 (tyX12 3) true := ⟨_, _, _, _, xc_X12, by decide, rfl, rfl, rfl, lw_gm 1416 (by decide +kernel) rfl⟩
theorem lf_X12_16 : xfl RX12 16 11 4 (tyX12 4) true := ⟨_, _, _, _, xc_X12, by decide, rfl, rfl, rfl, lw_gm 1417 (by decide +kernel) rfl⟩
theorem lf_X12_177 : xfl RX12 177 11 1 (tyX12 1) true := ⟨_, _, _, _, xc_X12, by decide, rfl, rfl, rfl, lw_gm 1414 (by decide +kernel) rfl⟩
theorem lf_X12_180 : xfl RX12 180 11 0 (tyX12 0) false := ⟨_, _, _, _, xc_X12, by decide, rfl, rfl, rfl, lw_gm 1413 (by decide +kernel) rfl⟩
theorem lf_X12_189 : xfl RX12 189 11 7 (tyX12 7) false := ⟨_, _, _, _, xc_X12, by decide, rfl, rfl, rfl, lw_gm 1420 (by decide +kernel) rfl⟩
theorem lf_X12_19 : xfl RX12 19 11 5 (tyX12 5) true := ⟨_, _, _, _, xc_X12, by decide, rfl, rfl, rfl, lw_gm 1418 (by decide +kernel) rfl⟩
theorem lf_X12_204 : xfl RX12 204 11 8 (tyX12 8) false := ⟨_, _, _, _, xc_X12, by decide, rfl, rfl, rfl, lw_gm 1421 (by decide +kernel) rfl⟩
theorem lf_X12_22 : xfl RX12 22 11 6 (tyX12 6) true := ⟨_, _, _, _, xc_X12, by decide, rfl, rfl, rfl, lw_gm 1419 (by decide +kernel) rfl⟩
theorem lf_X12_229 : xfl RX12 229 11 15 (tyX12 15) false := ⟨_, _, _, _, xc_X12, by decide, rfl, rfl, rfl, lw_gm 1428 (by decide +kernel) rfl⟩
theorem lf_X12_238 : xfl RX12 238 11 20 (tyX12 20) false := ⟨_, _, _, _, xc_X12, by decide, rfl, rfl, rfl, lw_gm 1433 (by decide +kernel) rfl⟩
theorem lf_X12_241 : xfl RX12 241 11 19 (tyX12 19) false := ⟨_, _, _, _, xc_X12, by decide, rfl, rfl, rfl, lw_gm 1432 (by decide +kernel) rfl⟩
theorem lf_X12_244 : xfl RX12 244 11 18 (tyX12 18) false := ⟨_, _, _, _, xc_X12, by decide, rfl, rfl, rfl, lw_gm 1431 (by decide +kernel) rfl⟩
theorem lf_X12_247 : xfl RX12 247 11 21 (tyX12 21) false := ⟨_, _, _, _, xc_X12, by decide, rfl, rfl, rfl, lw_gm 1434 (by decide +kernel) rfl⟩
theorem lf_X12_25 : xfl RX12 25 11 9 (tyX12 9) true := ⟨_, _, _, _, xc_X12, by decide, rfl, rfl, rfl, lw_gm 1422 (by decide +kernel) rfl⟩
theorem lf_X12_250 : xfl RX12 250 11 22 (tyX12 22) false := ⟨_, _, _, _, xc_X12, by decide, rfl, rfl, rfl, lw_gm 1435 (by decide +kernel) rfl⟩
theorem lf_X12_29 : xfl RX12 29 11 10 (tyX12 10) true := ⟨_, _, _, _, xc_X12, by decide, rfl, rfl, rfl, lw_gm 1423 (by decide +kernel) rfl⟩
theorem lf_X12_42 : xfl RX12 42 11 14 (tyX12 14) false := ⟨_, _, _, _, xc_X12, by decide, rfl, rfl, rfl, lw_gm 1427 (by decide +kernel) rfl⟩
theorem lf_X12_9 : xfl RX12 9 11 2 (tyX12 2) true := ⟨_, _, _, _, xc_X12, by decide, rfl, rfl, rfl, lw_gm 1415 (by decide +kernel) rfl⟩
theorem lc_X12_183 : xlS RX12 183 yJ6_bitCount_0f7a4 cJ6_bitCount_0f7a4 1 (some .int) 1 := ⟨⟨lw_gm 1640 (by decide +kernel) rfl, lw_gm 118 (by decide +kernel) rfl, lw_gm 521 (by decide +kernel) rfl, ⟨by decide, by decide, by decide +kernel⟩, by decide⟩, lw_gm 520 (by decide +kernel) rfl⟩
theorem lc_X12_192 : xlV RX12 192 yX12_isRow cX12_isRow 2 (some .boolean) 1 11 := ⟨⟨lw_gm 1636 (by decide +kernel) rfl, lw_gm 117 (by decide +kernel) rfl, lw_gm 1639 (by decide +kernel) rfl, ⟨by decide, by decide, by decide +kernel⟩, by decide⟩, lw_gm 1638 (by decide +kernel) rfl, lw_gm 39 (by decide +kernel) rfl, _, _, rfl⟩
theorem lc_X12_196 : xlS RX12 196 yX12_isIn cX12_isIn 3 (some .boolean) 3 := ⟨⟨lw_gm 1641 (by decide +kernel) rfl, lw_gm 117 (by decide +kernel) rfl, lw_gm 1643 (by decide +kernel) rfl, ⟨by decide, by decide, by decide +kernel⟩, by decide⟩, lw_gm 1642 (by decide +kernel) rfl⟩
theorem lc_X12_200 : xlS RX12 200 yX12_has cX12_has 2 (some .boolean) 2 := ⟨⟨lw_gm 1644 (by decide +kernel) rfl, lw_gm 117 (by decide +kernel) rfl, lw_gm 1646 (by decide +kernel) rfl, ⟨by decide, by decide, by decide +kernel⟩, by decide⟩, lw_gm 1645 (by decide +kernel) rfl⟩
theorem lc_X12_207 : xlV RX12 207 yX12_against cX12_against 4 (some .int) 1 11 := ⟨⟨lw_gm 1659 (by decide +kernel) rfl, lw_gm 117 (by decide +kernel) rfl, lw_gm 1662 (by decide +kernel) rfl, ⟨by decide, by decide, by decide +kernel⟩, by decide⟩, lw_gm 1661 (by decide +kernel) rfl, lw_gm 40 (by decide +kernel) rfl, _, _, rfl⟩
theorem lc_X12_210 : xlV RX12 210 yX12_isLawful cX12_isLawful 3 (some .boolean) 1 11 := ⟨⟨lw_gm 1663 (by decide +kernel) rfl, lw_gm 117 (by decide +kernel) rfl, lw_gm 1666 (by decide +kernel) rfl, ⟨by decide, by decide, by decide +kernel⟩, by decide⟩, lw_gm 1665 (by decide +kernel) rfl, lw_gm 41 (by decide +kernel) rfl, _, _, rfl⟩
theorem lc_X12_213 : xlS RX12 213 yX12_isBefore cX12_isBefore 5 (some .boolean) 2 := ⟨⟨lw_gm 1679 (by decide +kernel) rfl, lw_gm 117 (by decide +kernel) rfl, lw_gm 1681 (by decide +kernel) rfl, ⟨by decide, by decide, by decide +kernel⟩, by decide⟩, lw_gm 1680 (by decide +kernel) rfl⟩
theorem lc_X12_216 : xlV RX12 216 yX12_isEnough cX12_isEnough 3 (some .boolean) 1 11 := ⟨⟨lw_gm 1682 (by decide +kernel) rfl, lw_gm 117 (by decide +kernel) rfl, lw_gm 1685 (by decide +kernel) rfl, ⟨by decide, by decide, by decide +kernel⟩, by decide⟩, lw_gm 1684 (by decide +kernel) rfl, lw_gm 42 (by decide +kernel) rfl, _, _, rfl⟩
theorem lc_X12_231 : xlS RX12 231 yX12_bytesIn cX12_bytesIn 3 (some .int) 1 := ⟨⟨lw_gm 1694 (by decide +kernel) rfl, lw_gm 117 (by decide +kernel) rfl, lw_gm 1696 (by decide +kernel) rfl, ⟨by decide, by decide, by decide +kernel⟩, by decide⟩, lw_gm 1695 (by decide +kernel) rfl⟩
theorem lc_X12_234 : xlV RX12 234 yX12_put cX12_put 3 none 1 11 := ⟨⟨lw_gm 1697 (by decide +kernel) rfl, lw_gm 117 (by decide +kernel) rfl, lw_gm 1700 (by decide +kernel) rfl, ⟨by decide, by decide, by decide +kernel⟩, by decide⟩, lw_gm 1699 (by decide +kernel) rfl, lw_gm 43 (by decide +kernel) rfl, _, _, rfl⟩
theorem lc_X12_253 : xlV RX12 253 yX12_fails cX12_fails 1 (some .boolean) 0 11 := ⟨⟨lw_gm 1772 (by decide +kernel) rfl, lw_gm 117 (by decide +kernel) rfl, lw_gm 1775 (by decide +kernel) rfl, ⟨by decide, by decide, by decide +kernel⟩, by decide⟩, lw_gm 1774 (by decide +kernel) rfl, lw_gm 47 (by decide +kernel) rfl, _, _, rfl⟩
theorem lc_X12_257 : xlV RX12 257 yX12_look cX12_look 1 (some .int) 0 11 := ⟨⟨lw_gm 1717 (by decide +kernel) rfl, lw_gm 117 (by decide +kernel) rfl, lw_gm 1720 (by decide +kernel) rfl, ⟨by decide, by decide, by decide +kernel⟩, by decide⟩, lw_gm 1719 (by decide +kernel) rfl, lw_gm 46 (by decide +kernel) rfl, _, _, rfl⟩
def P_X12_isIn  (x0 : Int32) (x1 : Int32) (x2 : Int32)   (M : xM) : Int32 :=
  (if x0 < x1 then
  (0 : Int32)
  else
  (if x2 < x0 then
  (0 : Int32)
  else
  (1 : Int32)))
set_option maxRecDepth 100000 in
set_option maxHeartbeats 4000000 in
theorem w_X12_isIn {l : Launch} (x0 : Int32) (x1 : Int32) (x2 : Int32)     (M : xM)  : AW SM l RX12 cX12_isIn 3 (some .boolean) 0 ki (some (P_X12_isIn x0 x1 x2  M, M)) 0 [some (xi x0), some (xi x1), some (xi x2)] [] M := by
  unfold P_X12_isIn
  refine A_iload_n dX12_isIn_0 rfl ?_
  refine A_iload_n dX12_isIn_1 rfl ?_
  refine A_icmp_lt_p (tgt := 14) dX12_isIn_2 (by decide) (fun _ => ?_) (fun _ => ?_)
  · refine A_iconst (v := (0 : Int32)) dX12_isIn_14 oI_0 ?_
    exact A_zret' rfl (Or.inl rfl) dX12_isIn_15
  · refine A_iload_n dX12_isIn_5 rfl ?_
    refine A_iload_n dX12_isIn_6 rfl ?_
    refine A_icmp_gt_p (tgt := 14) dX12_isIn_7 (by decide) (fun _ => ?_) (fun _ => ?_)
    · refine A_iconst (v := (0 : Int32)) dX12_isIn_14 oI_0 ?_
      exact A_zret' rfl (Or.inl rfl) dX12_isIn_15
    · refine A_iconst (v := (1 : Int32)) dX12_isIn_10 oI_1 ?_
      refine A_goto (tgt := 15) dX12_isIn_11 (by decide) ?_
      exact A_zret' rfl (Or.inr rfl) dX12_isIn_15
theorem a_X12_isIn {l : Launch}  (x0 : Int32) (x1 : Int32) (x2 : Int32) (M : xM)  : AM SM l yX12_isIn cX12_isIn 3 (some .boolean) 0 ki [xi x0, xi x1, xi x2] M (some (P_X12_isIn  x0 x1 x2  M, M)) :=
  AM.of (L0 := [some (xi x0), some (xi x1), some (xi x2)]) (w_X12_isIn (l := l) x0 x1 x2  M ) (by decide +kernel) rfl (Nat.le_of_ble_eq_true rfl) ⟨rfl, rfl, rfl, trivial⟩
theorem zP_X12_isIn (x0 : Int32) (x1 : Int32) (x2 : Int32) (M : xM) : P_X12_isIn x0 x1 x2 M = 0 ∨ P_X12_isIn x0 x1 x2 M = 1 := by
  unfold P_X12_isIn
  repeat' split
  all_goals first | decide
def P_X12_has  (x0 : Int32) (x1 : Int32)   (M : xM) : Int32 :=
  (if ((x0 >>> (x1 &&& 31)) &&& (1 : Int32)) = (1 : Int32) then
  (1 : Int32)
  else
  (0 : Int32))
set_option maxRecDepth 100000 in
set_option maxHeartbeats 4000000 in
theorem w_X12_has {l : Launch} (x0 : Int32) (x1 : Int32)     (M : xM)  : AW SM l RX12 cX12_has 2 (some .boolean) 0 ki (some (P_X12_has x0 x1  M, M)) 0 [some (xi x0), some (xi x1)] [] M := by
  unfold P_X12_has
  refine A_iload_n dX12_has_0 rfl ?_
  refine A_iload_n dX12_has_1 rfl ?_
  refine A_ishr dX12_has_2 ?_
  refine A_iconst (v := (1 : Int32)) dX12_has_3 oI_1 ?_
  refine A_iand dX12_has_4 ?_
  refine A_iconst (v := (1 : Int32)) dX12_has_5 oI_1 ?_
  refine A_icmp_ne_p (tgt := 13) dX12_has_6 (by decide) (fun _ => ?_) (fun _ => ?_)
  · refine A_iconst (v := (1 : Int32)) dX12_has_9 oI_1 ?_
    refine A_goto (tgt := 14) dX12_has_10 (by decide) ?_
    exact A_zret' rfl (Or.inr rfl) dX12_has_14
  · refine A_iconst (v := (0 : Int32)) dX12_has_13 oI_0 ?_
    exact A_zret' rfl (Or.inl rfl) dX12_has_14
theorem a_X12_has {l : Launch}  (x0 : Int32) (x1 : Int32) (M : xM)  : AM SM l yX12_has cX12_has 2 (some .boolean) 0 ki [xi x0, xi x1] M (some (P_X12_has  x0 x1  M, M)) :=
  AM.of (L0 := [some (xi x0), some (xi x1)]) (w_X12_has (l := l) x0 x1  M ) (by decide +kernel) rfl (Nat.le_of_ble_eq_true rfl) ⟨rfl, rfl, trivial⟩
theorem zP_X12_has (x0 : Int32) (x1 : Int32) (M : xM) : P_X12_has x0 x1 M = 0 ∨ P_X12_has x0 x1 M = 1 := by
  unfold P_X12_has
  repeat' split
  all_goals first | decide
def P_X12_isBefore  (x0 : Int32) (x1 : Int32)   (M : xM) : Int32 :=
  (if (P_J6_bitCount_0f7a4 x0 M) = (P_J6_bitCount_0f7a4 x1 M) then
  (if ((x0 &&& (x0 ^^^ x1)) &&& (-(x0 ^^^ x1))) = 0 then
  (0 : Int32)
  else
  (1 : Int32))
  else
  (if (P_J6_bitCount_0f7a4 x1 M) ≤ (P_J6_bitCount_0f7a4 x0 M) then
  (0 : Int32)
  else
  (1 : Int32)))
set_option maxRecDepth 100000 in
set_option maxHeartbeats 4000000 in
theorem w_X12_isBefore {l : Launch} (x0 : Int32) (x1 : Int32)     (M : xM)  : AW SM l RX12 cX12_isBefore 5 (some .boolean) 1 ki (some (P_X12_isBefore x0 x1  M, M)) 0 [some (xi x0), some (xi x1), none, none, none] [] M := by
  unfold P_X12_isBefore
  refine A_iload_n dX12_isBefore_0 rfl ?_
  refine A_callSp (a_J6_bitCount_0f7a4 (S := SM) (l := l) _ _ ) lc_X12_183 rfl (by decide) (Nat.le_of_ble_eq_true rfl) rfl dX12_isBefore_1 ?_
  refine A_istore_n dX12_isBefore_4 (Nat.le_of_ble_eq_true rfl) rfl ?_
  refine A_iload_n dX12_isBefore_5 rfl ?_
  refine A_callSp (a_J6_bitCount_0f7a4 (S := SM) (l := l) _ _ ) lc_X12_183 rfl (by decide) (Nat.le_of_ble_eq_true rfl) rfl dX12_isBefore_6 ?_
  refine A_istore_n dX12_isBefore_9 (Nat.le_of_ble_eq_true rfl) rfl ?_
  refine A_iload_n dX12_isBefore_10 rfl ?_
  refine A_iload_n dX12_isBefore_11 rfl ?_
  refine A_ixor dX12_isBefore_12 ?_
  refine A_istore dX12_isBefore_13 (Nat.le_of_ble_eq_true rfl) rfl ?_
  refine A_iload_n dX12_isBefore_15 rfl ?_
  refine A_iload_n dX12_isBefore_16 rfl ?_
  refine A_icmp_eq_p (tgt := 33) dX12_isBefore_17 (by decide) (fun _ => ?_) (fun _ => ?_)
  · refine A_iload_n dX12_isBefore_33 rfl ?_
    refine A_iload dX12_isBefore_34 rfl ?_
    refine A_iand dX12_isBefore_36 ?_
    refine A_iload dX12_isBefore_37 rfl ?_
    refine A_ineg dX12_isBefore_39 ?_
    refine A_iand dX12_isBefore_40 ?_
    refine A_if_eq_p (tgt := 48) dX12_isBefore_41 (by decide) (fun _ => ?_) (fun _ => ?_)
    · refine A_iconst (v := (0 : Int32)) dX12_isBefore_48 oI_0 ?_
      exact A_zret' rfl (Or.inl rfl) dX12_isBefore_49
    · refine A_iconst (v := (1 : Int32)) dX12_isBefore_44 oI_1 ?_
      refine A_goto (tgt := 49) dX12_isBefore_45 (by decide) ?_
      exact A_zret' rfl (Or.inr rfl) dX12_isBefore_49
  · refine A_iload_n dX12_isBefore_20 rfl ?_
    refine A_iload_n dX12_isBefore_21 rfl ?_
    refine A_icmp_ge_p (tgt := 29) dX12_isBefore_22 (by decide) (fun _ => ?_) (fun _ => ?_)
    · refine A_iconst (v := (0 : Int32)) dX12_isBefore_29 oI_0 ?_
      refine A_goto (tgt := 49) dX12_isBefore_30 (by decide) ?_
      exact A_zret' rfl (Or.inl rfl) dX12_isBefore_49
    · refine A_iconst (v := (1 : Int32)) dX12_isBefore_25 oI_1 ?_
      refine A_goto (tgt := 49) dX12_isBefore_26 (by decide) ?_
      exact A_zret' rfl (Or.inr rfl) dX12_isBefore_49
theorem a_X12_isBefore {l : Launch}  (x0 : Int32) (x1 : Int32) (M : xM)  : AM SM l yX12_isBefore cX12_isBefore 5 (some .boolean) 1 ki [xi x0, xi x1] M (some (P_X12_isBefore  x0 x1  M, M)) :=
  AM.of (L0 := [some (xi x0), some (xi x1), none, none, none]) (w_X12_isBefore (l := l) x0 x1  M ) (by decide +kernel) rfl (Nat.le_of_ble_eq_true rfl) ⟨rfl, rfl, trivial⟩
theorem zP_X12_isBefore (x0 : Int32) (x1 : Int32) (M : xM) : P_X12_isBefore x0 x1 M = 0 ∨ P_X12_isBefore x0 x1 M = 1 := by
  unfold P_X12_isBefore
  repeat' split
  all_goals first | decide
def P_X12_isRow  (x1 : Int32)   (M : xM) : Int32 :=
  (if x1 < 0 then
  (0 : Int32)
  else
  (if ((1 : Int32) <<< ((M 0 1) &&& 31)) ≤ x1 then
  (0 : Int32)
  else
  (1 : Int32)))
set_option maxRecDepth 100000 in
set_option maxHeartbeats 4000000 in
theorem w_X12_isRow {l : Launch} (x1 : Int32)     (M : xM)  : AW SM l RX12 cX12_isRow 2 (some .boolean) 0 ki (some (P_X12_isRow x1  M, M)) 0 [some (xr 0), some (xi x1)] [] M := by
  unfold P_X12_isRow
  refine A_iload_n dX12_isRow_0 rfl ?_
  refine A_if_lt_p (tgt := 18) dX12_isRow_1 (by decide) (fun _ => ?_) (fun _ => ?_)
  · refine A_iconst (v := (0 : Int32)) dX12_isRow_18 oI_0 ?_
    exact A_zret' rfl (Or.inl rfl) dX12_isRow_19
  · refine A_iload_n dX12_isRow_4 rfl ?_
    refine A_iconst (v := (1 : Int32)) dX12_isRow_5 oI_1 ?_
    refine A_aload_n dX12_isRow_6 rfl ?_
    refine A_geti lf_X12_177 rfl rfl dX12_isRow_7 ?_
    refine A_ishl dX12_isRow_10 ?_
    refine A_icmp_ge_p (tgt := 18) dX12_isRow_11 (by decide) (fun _ => ?_) (fun _ => ?_)
    · refine A_iconst (v := (0 : Int32)) dX12_isRow_18 oI_0 ?_
      exact A_zret' rfl (Or.inl rfl) dX12_isRow_19
    · refine A_iconst (v := (1 : Int32)) dX12_isRow_14 oI_1 ?_
      refine A_goto (tgt := 19) dX12_isRow_15 (by decide) ?_
      exact A_zret' rfl (Or.inr rfl) dX12_isRow_19
theorem a_X12_isRow {l : Launch}  (x1 : Int32) (M : xM)  : AM SM l yX12_isRow cX12_isRow 2 (some .boolean) 0 ki [xr 0, xi x1] M (some (P_X12_isRow  x1  M, M)) :=
  AM.of (L0 := [some (xr 0), some (xi x1)]) (w_X12_isRow (l := l) x1  M ) (by decide +kernel) rfl (Nat.le_of_ble_eq_true rfl) ⟨rfl, rfl, trivial⟩
theorem zP_X12_isRow (x1 : Int32) (M : xM) : P_X12_isRow x1 M = 0 ∨ P_X12_isRow x1 M = 1 := by
  unfold P_X12_isRow
  repeat' split
  all_goals first | decide
def F_X12_office_b70 (fu : Nat)  (x1 : Int32) (x2 : Int32) (k42 : Int32 → xM → Option (Int32 × xM)) (x3 : Int32) (M : xM) : Option (Int32 × xM) :=
  k42 (x3 + (1 : Int32)) M
set_option maxRecDepth 100000 in
set_option maxHeartbeats 4000000 in
theorem a_X12_office_b70 {l : Launch} (fu : Nat) (x1 : Int32) (x2 : Int32)  {k42 : Int32 → xM → Option (Int32 × xM)} (hk42 : ∀ (b0 : Int32) (M : xM), AW SM l RX12 cX12_office 4 (some .int) 1 ki (k42 b0 M) 42 [some (xr 0), some (xi x1), some (xi x2), some (xi b0)] [] M) (x3 : Int32) (M : xM)  : AW SM l RX12 cX12_office 4 (some .int) 1 ki (F_X12_office_b70 fu x1 x2 k42 x3 M) 70 [some (xr 0), some (xi x1), some (xi x2), some (xi x3)] [] M := by
  unfold F_X12_office_b70
  refine A_iinc dX12_office_70 rfl oI_1 (Nat.le_of_ble_eq_true rfl) rfl ?_
  refine A_goto (tgt := 42) dX12_office_73 (by decide) ?_
  exact (hk42 _ _).sub ⟨rfl, rfl, rfl, rfl, trivial⟩
def F_X12_office_b104 (fu : Nat)  (x1 : Int32) (x2 : Int32) (k78 : Int32 → xM → Option (Int32 × xM)) (x3 : Int32) (M : xM) : Option (Int32 × xM) :=
  k78 (x3 + (1 : Int32)) M
set_option maxRecDepth 100000 in
set_option maxHeartbeats 4000000 in
theorem a_X12_office_b104 {l : Launch} (fu : Nat) (x1 : Int32) (x2 : Int32)  {k78 : Int32 → xM → Option (Int32 × xM)} (hk78 : ∀ (b0 : Int32) (M : xM), AW SM l RX12 cX12_office 4 (some .int) 1 ki (k78 b0 M) 78 [some (xr 0), some (xi x1), some (xi x2), some (xi b0)] [] M) (x3 : Int32) (M : xM)  : AW SM l RX12 cX12_office 4 (some .int) 1 ki (F_X12_office_b104 fu x1 x2 k78 x3 M) 104 [some (xr 0), some (xi x1), some (xi x2), some (xi x3)] [] M := by
  unfold F_X12_office_b104
  refine A_iinc dX12_office_104 rfl oI_1 (Nat.le_of_ble_eq_true rfl) rfl ?_
  refine A_goto (tgt := 78) dX12_office_107 (by decide) ?_
  exact (hk78 _ _).sub ⟨rfl, rfl, rfl, rfl, trivial⟩
def F_X12_office_b78 (fu : Nat)  (x1 : Int32) (x2 : Int32)  : Nat → Int32 → xM → Option (Int32 × xM)
  | 0, _, _ => none
  | n + 1, x3, M =>
    (if (M 0 1) ≤ x3 then
    (if (M 0 7) < 0 ∨ 6 ≤ (M 0 7).toNatClampNeg then none else
    (if ((xset M 1 (M 0 7).toNatClampNeg x1) 0 7) < 0 ∨ 6 ≤ ((xset M 1 (M 0 7).toNatClampNeg x1) 0 7).toNatClampNeg then none else
    some ((((xset (xset (xset M 1 (M 0 7).toNatClampNeg x1) 2 ((xset M 1 (M 0 7).toNatClampNeg x1) 0 7).toNatClampNeg x2) 0 7 (((xset (xset M 1 (M 0 7).toNatClampNeg x1) 2 ((xset M 1 (M 0 7).toNatClampNeg x1) 0 7).toNatClampNeg x2) 0 7) + (1 : Int32))) 0 7) - (1 : Int32)), (xset (xset (xset M 1 (M 0 7).toNatClampNeg x1) 2 ((xset M 1 (M 0 7).toNatClampNeg x1) 0 7).toNatClampNeg x2) 0 7 (((xset (xset M 1 (M 0 7).toNatClampNeg x1) 2 ((xset M 1 (M 0 7).toNatClampNeg x1) 0 7).toNatClampNeg x2) 0 7) + (1 : Int32))))))
    else
    (if (P_X12_has x1 x3 M) = 0 then
    F_X12_office_b104 fu x1 x2 (F_X12_office_b78 fu x1 x2 n) x3 M
    else
    (if x3 < 0 ∨ 16 ≤ x3.toNatClampNeg then none else
    F_X12_office_b104 fu x1 x2 (F_X12_office_b78 fu x1 x2 n) x3 (xset M 3 x3.toNatClampNeg (M 0 7)))))
set_option maxRecDepth 100000 in
set_option maxHeartbeats 4000000 in
theorem a_X12_office_b78 {l : Launch} (fu : Nat) (x1 : Int32) (x2 : Int32)    : ∀ (n : Nat) (x3 : Int32) (M : xM), AW SM l RX12 cX12_office 4 (some .int) 1 ki (F_X12_office_b78 fu x1 x2 n x3 M) 78 [some (xr 0), some (xi x1), some (xi x2), some (xi x3)] [] M := by
  intro n
  induction n with
  | zero =>
    intro x3 M
    exact AW.none
  | succ n ih =>
    intro x3 M
    rw [F_X12_office_b78]
    refine A_iload_n dX12_office_78 rfl ?_
    refine A_aload_n dX12_office_79 rfl ?_
    refine A_geti lf_X12_177 rfl rfl dX12_office_80 ?_
    refine A_icmp_ge (tgt := 110) dX12_office_83 (by decide) (fun _ => ?_) (fun _ => ?_)
    · refine A_aload_n dX12_office_110 rfl ?_
      refine A_getr lf_X12_9 rfl rfl dX12_office_111 ?_
      refine A_aload_n dX12_office_114 rfl ?_
      refine A_geti lf_X12_189 rfl rfl dX12_office_115 ?_
      refine A_iload_n dX12_office_118 rfl ?_
      refine A_iast rfl dX12_office_119 (fun _ => ?_)
      refine A_aload_n dX12_office_120 rfl ?_
      refine A_getr lf_X12_13 rfl rfl dX12_office_121 ?_
      refine A_aload_n dX12_office_124 rfl ?_
      refine A_geti lf_X12_189 rfl rfl dX12_office_125 ?_
      refine A_iload_n dX12_office_128 rfl ?_
      refine A_iast rfl dX12_office_129 (fun _ => ?_)
      refine A_aload_n dX12_office_130 rfl ?_
      refine A_dup dX12_office_131 rfl ?_
      refine A_geti lf_X12_189 rfl rfl dX12_office_132 ?_
      refine A_iconst (v := (1 : Int32)) dX12_office_135 oI_1 ?_
      refine A_iadd dX12_office_136 ?_
      refine A_puti lf_X12_189 rfl rfl dX12_office_137 ?_
      refine A_aload_n dX12_office_140 rfl ?_
      refine A_geti lf_X12_189 rfl rfl dX12_office_141 ?_
      refine A_iconst (v := (1 : Int32)) dX12_office_144 oI_1 ?_
      refine A_isub dX12_office_145 ?_
      exact A_iret rfl dX12_office_146
    · refine A_iload_n dX12_office_86 rfl ?_
      refine A_iload_n dX12_office_87 rfl ?_
      refine A_callSp (a_X12_has (l := l) _ _ _ ) lc_X12_200 rfl (by decide) (Nat.le_of_ble_eq_true rfl) rfl dX12_office_88 ?_
      refine A_if_eq (tgt := 104) dX12_office_91 (by decide) (fun _ => ?_) (fun _ => ?_)
      · exact (a_X12_office_b104 (l := l) fu x1 x2 ih _ _ ).sub ⟨rfl, rfl, rfl, rfl, trivial⟩
      · refine A_aload_n dX12_office_94 rfl ?_
        refine A_getr lf_X12_16 rfl rfl dX12_office_95 ?_
        refine A_iload_n dX12_office_98 rfl ?_
        refine A_aload_n dX12_office_99 rfl ?_
        refine A_geti lf_X12_189 rfl rfl dX12_office_100 ?_
        refine A_iast rfl dX12_office_103 (fun _ => ?_)
        exact (a_X12_office_b104 (l := l) fu x1 x2 ih _ _ ).sub ⟨rfl, rfl, rfl, rfl, trivial⟩
def F_X12_office_b42 (fu : Nat)  (x1 : Int32) (x2 : Int32)  : Nat → Int32 → xM → Option (Int32 × xM)
  | 0, _, _ => none
  | n + 1, x3, M =>
    (if (M 0 1) ≤ x3 then
    F_X12_office_b78 fu x1 x2 fu (0 : Int32) M
    else
    (if (P_X12_has x1 x3 M) = 0 then
    F_X12_office_b70 fu x1 x2 (F_X12_office_b42 fu x1 x2 n) x3 M
    else
    (if x3 < 0 ∨ 16 ≤ x3.toNatClampNeg then none else
    (if (M 3 x3.toNatClampNeg) = (-1 : Int32) then
    F_X12_office_b70 fu x1 x2 (F_X12_office_b42 fu x1 x2 n) x3 M
    else
    some ((-1 : Int32), M)))))
set_option maxRecDepth 100000 in
set_option maxHeartbeats 4000000 in
theorem a_X12_office_b42 {l : Launch} (fu : Nat) (x1 : Int32) (x2 : Int32)    : ∀ (n : Nat) (x3 : Int32) (M : xM), AW SM l RX12 cX12_office 4 (some .int) 1 ki (F_X12_office_b42 fu x1 x2 n x3 M) 42 [some (xr 0), some (xi x1), some (xi x2), some (xi x3)] [] M := by
  intro n
  induction n with
  | zero =>
    intro x3 M
    exact AW.none
  | succ n ih =>
    intro x3 M
    rw [F_X12_office_b42]
    refine A_iload_n dX12_office_42 rfl ?_
    refine A_aload_n dX12_office_43 rfl ?_
    refine A_geti lf_X12_177 rfl rfl dX12_office_44 ?_
    refine A_icmp_ge (tgt := 76) dX12_office_47 (by decide) (fun _ => ?_) (fun _ => ?_)
    · refine A_iconst (v := (0 : Int32)) dX12_office_76 oI_0 ?_
      refine A_istore_n dX12_office_77 (Nat.le_of_ble_eq_true rfl) rfl ?_
      exact (a_X12_office_b78 (l := l) fu x1 x2  fu _ _).sub ⟨rfl, rfl, rfl, rfl, trivial⟩
    · refine A_iload_n dX12_office_50 rfl ?_
      refine A_iload_n dX12_office_51 rfl ?_
      refine A_callSp (a_X12_has (l := l) _ _ _ ) lc_X12_200 rfl (by decide) (Nat.le_of_ble_eq_true rfl) rfl dX12_office_52 ?_
      refine A_if_eq (tgt := 70) dX12_office_55 (by decide) (fun _ => ?_) (fun _ => ?_)
      · exact (a_X12_office_b70 (l := l) fu x1 x2 ih _ _ ).sub ⟨rfl, rfl, rfl, rfl, trivial⟩
      · refine A_aload_n dX12_office_58 rfl ?_
        refine A_getr lf_X12_16 rfl rfl dX12_office_59 ?_
        refine A_iload_n dX12_office_62 rfl ?_
        refine A_iald rfl dX12_office_63 (fun _ => ?_)
        refine A_iconst (v := (-1 : Int32)) dX12_office_64 oI_m1 ?_
        refine A_icmp_eq (tgt := 70) dX12_office_65 (by decide) (fun _ => ?_) (fun _ => ?_)
        · exact (a_X12_office_b70 (l := l) fu x1 x2 ih _ _ ).sub ⟨rfl, rfl, rfl, rfl, trivial⟩
        · refine A_iconst (v := (-1 : Int32)) dX12_office_68 oI_m1 ?_
          exact A_iret rfl dX12_office_69
def F_X12_office (fu : Nat)  (x1 : Int32) (x2 : Int32)   (M : xM) : Option (Int32 × xM) :=
  (if ((xset M 0 0 (0 : Int32)) 0 7) = (6 : Int32) then
  some ((-1 : Int32), (xset M 0 0 (0 : Int32)))
  else
  (if (P_X12_isRow x1 (xset M 0 0 (0 : Int32))) = 0 then
  some ((-1 : Int32), (xset M 0 0 (0 : Int32)))
  else
  (if x1 = 0 then
  some ((-1 : Int32), (xset M 0 0 (0 : Int32)))
  else
  (if (P_X12_isIn x2 (1 : Int32) (P_J6_bitCount_0f7a4 x1 (xset M 0 0 (0 : Int32))) (xset M 0 0 (0 : Int32))) = 0 then
  some ((-1 : Int32), (xset M 0 0 (0 : Int32)))
  else
  F_X12_office_b42 fu x1 x2 fu (0 : Int32) (xset M 0 0 (0 : Int32))))))
set_option maxRecDepth 100000 in
set_option maxHeartbeats 4000000 in
theorem w_X12_office {l : Launch} (fu : Nat) (x1 : Int32) (x2 : Int32)     (M : xM)  : AW SM l RX12 cX12_office 4 (some .int) 1 ki (F_X12_office fu x1 x2  M) 0 [some (xr 0), some (xi x1), some (xi x2), none] [] M := by
  unfold F_X12_office
  refine A_aload_n dX12_office_0 rfl ?_
  refine A_iconst (v := (0 : Int32)) dX12_office_1 oI_0 ?_
  refine A_puti lf_X12_180 rfl rfl dX12_office_2 ?_
  refine A_aload_n dX12_office_5 rfl ?_
  refine A_geti lf_X12_189 rfl rfl dX12_office_6 ?_
  refine A_bipush (v := (6 : Int32)) dX12_office_9 oB_6 ?_
  refine A_icmp_eq (tgt := 38) dX12_office_11 (by decide) (fun _ => ?_) (fun _ => ?_)
  · refine A_iconst (v := (-1 : Int32)) dX12_office_38 oI_m1 ?_
    exact A_iret rfl dX12_office_39
  · refine A_aload_n dX12_office_14 rfl ?_
    refine A_iload_n dX12_office_15 rfl ?_
    refine A_callVp (a_X12_isRow (l := l) _ _ ) lc_X12_192 rfl rfl (by decide) (Nat.le_of_ble_eq_true rfl) rfl dX12_office_16 ?_
    refine A_if_eq (tgt := 38) dX12_office_19 (by decide) (fun _ => ?_) (fun _ => ?_)
    · refine A_iconst (v := (-1 : Int32)) dX12_office_38 oI_m1 ?_
      exact A_iret rfl dX12_office_39
    · refine A_iload_n dX12_office_22 rfl ?_
      refine A_if_eq (tgt := 38) dX12_office_23 (by decide) (fun _ => ?_) (fun _ => ?_)
      · refine A_iconst (v := (-1 : Int32)) dX12_office_38 oI_m1 ?_
        exact A_iret rfl dX12_office_39
      · refine A_iload_n dX12_office_26 rfl ?_
        refine A_iconst (v := (1 : Int32)) dX12_office_27 oI_1 ?_
        refine A_iload_n dX12_office_28 rfl ?_
        refine A_callSp (a_J6_bitCount_0f7a4 (S := SM) (l := l) _ _ ) lc_X12_183 rfl (by decide) (Nat.le_of_ble_eq_true rfl) rfl dX12_office_29 ?_
        refine A_callSp (a_X12_isIn (l := l) _ _ _ _ ) lc_X12_196 rfl (by decide) (Nat.le_of_ble_eq_true rfl) rfl dX12_office_32 ?_
        refine A_if_ne (tgt := 40) dX12_office_35 (by decide) (fun _ => ?_) (fun _ => ?_)
        · refine A_iconst (v := (-1 : Int32)) dX12_office_38 oI_m1 ?_
          exact A_iret rfl dX12_office_39
        · refine A_iconst (v := (0 : Int32)) dX12_office_40 oI_0 ?_
          refine A_istore_n dX12_office_41 (Nat.le_of_ble_eq_true rfl) rfl ?_
          exact (a_X12_office_b42 (l := l) fu x1 x2  fu _ _).sub ⟨rfl, rfl, rfl, rfl, trivial⟩
theorem a_X12_office {l : Launch} (fu : Nat)  (x1 : Int32) (x2 : Int32) (M : xM)  : AM SM l yX12_office cX12_office 4 (some .int) 1 ki [xr 0, xi x1, xi x2] M (F_X12_office fu x1 x2  M) :=
  AM.of (L0 := [some (xr 0), some (xi x1), some (xi x2), none]) (w_X12_office (l := l) fu x1 x2  M ) (by decide +kernel) rfl (Nat.le_of_ble_eq_true rfl) ⟨rfl, rfl, rfl, trivial⟩
def F_X12_strap  (x1 : Int32) (x2 : Int32)   (M : xM) : Option (Int32 × xM) :=
  (if ((xset M 0 0 (0 : Int32)) 0 8) = (10 : Int32) then
  some ((-1 : Int32), (xset M 0 0 (0 : Int32)))
  else
  (if (P_X12_isRow x1 (xset M 0 0 (0 : Int32))) = 0 then
  some ((-1 : Int32), (xset M 0 0 (0 : Int32)))
  else
  (if x1 = 0 then
  some ((-1 : Int32), (xset M 0 0 (0 : Int32)))
  else
  (if (P_X12_isIn x2 (0 : Int32) (P_J6_bitCount_0f7a4 x1 (xset M 0 0 (0 : Int32))) (xset M 0 0 (0 : Int32))) = 0 then
  some ((-1 : Int32), (xset M 0 0 (0 : Int32)))
  else
  (if ((xset M 0 0 (0 : Int32)) 0 8) < 0 ∨ 10 ≤ ((xset M 0 0 (0 : Int32)) 0 8).toNatClampNeg then none else
  (if ((xset (xset M 0 0 (0 : Int32)) 4 ((xset M 0 0 (0 : Int32)) 0 8).toNatClampNeg x1) 0 8) < 0 ∨ 10 ≤ ((xset (xset M 0 0 (0 : Int32)) 4 ((xset M 0 0 (0 : Int32)) 0 8).toNatClampNeg x1) 0 8).toNatClampNeg then none else
  some ((((xset (xset (xset (xset M 0 0 (0 : Int32)) 4 ((xset M 0 0 (0 : Int32)) 0 8).toNatClampNeg x1) 5 ((xset (xset M 0 0 (0 : Int32)) 4 ((xset M 0 0 (0 : Int32)) 0 8).toNatClampNeg x1) 0 8).toNatClampNeg x2) 0 8 (((xset (xset (xset M 0 0 (0 : Int32)) 4 ((xset M 0 0 (0 : Int32)) 0 8).toNatClampNeg x1) 5 ((xset (xset M 0 0 (0 : Int32)) 4 ((xset M 0 0 (0 : Int32)) 0 8).toNatClampNeg x1) 0 8).toNatClampNeg x2) 0 8) + (1 : Int32))) 0 8) - (1 : Int32)), (xset (xset (xset (xset M 0 0 (0 : Int32)) 4 ((xset M 0 0 (0 : Int32)) 0 8).toNatClampNeg x1) 5 ((xset (xset M 0 0 (0 : Int32)) 4 ((xset M 0 0 (0 : Int32)) 0 8).toNatClampNeg x1) 0 8).toNatClampNeg x2) 0 8 (((xset (xset (xset M 0 0 (0 : Int32)) 4 ((xset M 0 0 (0 : Int32)) 0 8).toNatClampNeg x1) 5 ((xset (xset M 0 0 (0 : Int32)) 4 ((xset M 0 0 (0 : Int32)) 0 8).toNatClampNeg x1) 0 8).toNatClampNeg x2) 0 8) + (1 : Int32))))))))))
set_option maxRecDepth 100000 in
set_option maxHeartbeats 4000000 in
theorem w_X12_strap {l : Launch} (x1 : Int32) (x2 : Int32)     (M : xM)  : AW SM l RX12 cX12_strap 3 (some .int) 1 ki (F_X12_strap x1 x2  M) 0 [some (xr 0), some (xi x1), some (xi x2)] [] M := by
  unfold F_X12_strap
  refine A_aload_n dX12_strap_0 rfl ?_
  refine A_iconst (v := (0 : Int32)) dX12_strap_1 oI_0 ?_
  refine A_puti lf_X12_180 rfl rfl dX12_strap_2 ?_
  refine A_aload_n dX12_strap_5 rfl ?_
  refine A_geti lf_X12_204 rfl rfl dX12_strap_6 ?_
  refine A_bipush (v := (10 : Int32)) dX12_strap_9 oB_10 ?_
  refine A_icmp_eq (tgt := 38) dX12_strap_11 (by decide) (fun _ => ?_) (fun _ => ?_)
  · refine A_iconst (v := (-1 : Int32)) dX12_strap_38 oI_m1 ?_
    exact A_iret rfl dX12_strap_39
  · refine A_aload_n dX12_strap_14 rfl ?_
    refine A_iload_n dX12_strap_15 rfl ?_
    refine A_callVp (a_X12_isRow (l := l) _ _ ) lc_X12_192 rfl rfl (by decide) (Nat.le_of_ble_eq_true rfl) rfl dX12_strap_16 ?_
    refine A_if_eq (tgt := 38) dX12_strap_19 (by decide) (fun _ => ?_) (fun _ => ?_)
    · refine A_iconst (v := (-1 : Int32)) dX12_strap_38 oI_m1 ?_
      exact A_iret rfl dX12_strap_39
    · refine A_iload_n dX12_strap_22 rfl ?_
      refine A_if_eq (tgt := 38) dX12_strap_23 (by decide) (fun _ => ?_) (fun _ => ?_)
      · refine A_iconst (v := (-1 : Int32)) dX12_strap_38 oI_m1 ?_
        exact A_iret rfl dX12_strap_39
      · refine A_iload_n dX12_strap_26 rfl ?_
        refine A_iconst (v := (0 : Int32)) dX12_strap_27 oI_0 ?_
        refine A_iload_n dX12_strap_28 rfl ?_
        refine A_callSp (a_J6_bitCount_0f7a4 (S := SM) (l := l) _ _ ) lc_X12_183 rfl (by decide) (Nat.le_of_ble_eq_true rfl) rfl dX12_strap_29 ?_
        refine A_callSp (a_X12_isIn (l := l) _ _ _ _ ) lc_X12_196 rfl (by decide) (Nat.le_of_ble_eq_true rfl) rfl dX12_strap_32 ?_
        refine A_if_ne (tgt := 40) dX12_strap_35 (by decide) (fun _ => ?_) (fun _ => ?_)
        · refine A_iconst (v := (-1 : Int32)) dX12_strap_38 oI_m1 ?_
          exact A_iret rfl dX12_strap_39
        · refine A_aload_n dX12_strap_40 rfl ?_
          refine A_getr lf_X12_19 rfl rfl dX12_strap_41 ?_
          refine A_aload_n dX12_strap_44 rfl ?_
          refine A_geti lf_X12_204 rfl rfl dX12_strap_45 ?_
          refine A_iload_n dX12_strap_48 rfl ?_
          refine A_iast rfl dX12_strap_49 (fun _ => ?_)
          refine A_aload_n dX12_strap_50 rfl ?_
          refine A_getr lf_X12_22 rfl rfl dX12_strap_51 ?_
          refine A_aload_n dX12_strap_54 rfl ?_
          refine A_geti lf_X12_204 rfl rfl dX12_strap_55 ?_
          refine A_iload_n dX12_strap_58 rfl ?_
          refine A_iast rfl dX12_strap_59 (fun _ => ?_)
          refine A_aload_n dX12_strap_60 rfl ?_
          refine A_dup dX12_strap_61 rfl ?_
          refine A_geti lf_X12_204 rfl rfl dX12_strap_62 ?_
          refine A_iconst (v := (1 : Int32)) dX12_strap_65 oI_1 ?_
          refine A_iadd dX12_strap_66 ?_
          refine A_puti lf_X12_204 rfl rfl dX12_strap_67 ?_
          refine A_aload_n dX12_strap_70 rfl ?_
          refine A_geti lf_X12_204 rfl rfl dX12_strap_71 ?_
          refine A_iconst (v := (1 : Int32)) dX12_strap_74 oI_1 ?_
          refine A_isub dX12_strap_75 ?_
          exact A_iret rfl dX12_strap_76
theorem a_X12_strap {l : Launch}  (x1 : Int32) (x2 : Int32) (M : xM)  : AM SM l yX12_strap cX12_strap 3 (some .int) 1 ki [xr 0, xi x1, xi x2] M (F_X12_strap  x1 x2  M) :=
  AM.of (L0 := [some (xr 0), some (xi x1), some (xi x2)]) (w_X12_strap (l := l) x1 x2  M ) (by decide +kernel) rfl (Nat.le_of_ble_eq_true rfl) ⟨rfl, rfl, rfl, trivial⟩
def F_X12_unstrap     (M : xM) : Option (Int32 × xM) :=
  (if ((xset M 0 0 (0 : Int32)) 0 8) = 0 then
  some ((-1 : Int32), (xset M 0 0 (0 : Int32)))
  else
  some (((xset (xset M 0 0 (0 : Int32)) 0 8 (((xset M 0 0 (0 : Int32)) 0 8) - (1 : Int32))) 0 8), (xset (xset M 0 0 (0 : Int32)) 0 8 (((xset M 0 0 (0 : Int32)) 0 8) - (1 : Int32)))))
set_option maxRecDepth 100000 in
set_option maxHeartbeats 4000000 in
theorem w_X12_unstrap {l : Launch}      (M : xM)  : AW SM l RX12 cX12_unstrap 1 (some .int) 0 ki (F_X12_unstrap   M) 0 [some (xr 0)] [] M := by
  unfold F_X12_unstrap
  refine A_aload_n dX12_unstrap_0 rfl ?_
  refine A_iconst (v := (0 : Int32)) dX12_unstrap_1 oI_0 ?_
  refine A_puti lf_X12_180 rfl rfl dX12_unstrap_2 ?_
  refine A_aload_n dX12_unstrap_5 rfl ?_
  refine A_geti lf_X12_204 rfl rfl dX12_unstrap_6 ?_
  refine A_if_ne (tgt := 14) dX12_unstrap_9 (by decide) (fun _ => ?_) (fun _ => ?_)
  · refine A_iconst (v := (-1 : Int32)) dX12_unstrap_12 oI_m1 ?_
    exact A_iret rfl dX12_unstrap_13
  · refine A_aload_n dX12_unstrap_14 rfl ?_
    refine A_dup dX12_unstrap_15 rfl ?_
    refine A_geti lf_X12_204 rfl rfl dX12_unstrap_16 ?_
    refine A_iconst (v := (1 : Int32)) dX12_unstrap_19 oI_1 ?_
    refine A_isub dX12_unstrap_20 ?_
    refine A_puti lf_X12_204 rfl rfl dX12_unstrap_21 ?_
    refine A_aload_n dX12_unstrap_24 rfl ?_
    refine A_geti lf_X12_204 rfl rfl dX12_unstrap_25 ?_
    exact A_iret rfl dX12_unstrap_28
theorem a_X12_unstrap {l : Launch}   (M : xM)  : AM SM l yX12_unstrap cX12_unstrap 1 (some .int) 0 ki [xr 0] M (F_X12_unstrap    M) :=
  AM.of (L0 := [some (xr 0)]) (w_X12_unstrap (l := l)   M ) (by decide +kernel) rfl (Nat.le_of_ble_eq_true rfl) ⟨rfl, trivial⟩
def F_X12_against_b40 (fu : Nat)  (x1 : Int32) (k4 : Int32 → Int32 → xM → Option (Int32 × xM)) (x3 : Int32) (s0 : Int32) (s1 : Int32) (M : xM) : Option (Int32 × xM) :=
  k4 (s1 ||| s0) (x3 + (1 : Int32)) M
set_option maxRecDepth 100000 in
set_option maxHeartbeats 4000000 in
theorem a_X12_against_b40 {l : Launch} (fu : Nat) (x1 : Int32)  {k4 : Int32 → Int32 → xM → Option (Int32 × xM)} (hk4 : ∀ (b0 : Int32) (b1 : Int32) (M : xM), AW SM l RX12 cX12_against 4 (some .int) 1 ki (k4 b0 b1 M) 4 [some (xr 0), some (xi x1), some (xi b0), some (xi b1)] [] M) (x3 : Int32) (s0 : Int32) (s1 : Int32) (M : xM)  : AW SM l RX12 cX12_against 4 (some .int) 1 ki (F_X12_against_b40 fu x1 k4 x3 s0 s1 M) 40 [some (xr 0), some (xi x1), none, some (xi x3)] [xi s0, xi s1] M := by
  unfold F_X12_against_b40
  refine A_ior dX12_against_40 ?_
  refine A_istore_n dX12_against_41 (Nat.le_of_ble_eq_true rfl) rfl ?_
  refine A_iinc dX12_against_42 rfl oI_1 (Nat.le_of_ble_eq_true rfl) rfl ?_
  refine A_goto (tgt := 4) dX12_against_45 (by decide) ?_
  exact (hk4 _ _ _).sub ⟨rfl, rfl, rfl, rfl, trivial⟩
def F_X12_against_b4 (fu : Nat)  (x1 : Int32)  : Nat → Int32 → Int32 → xM → Option (Int32 × xM)
  | 0, _, _, _ => none
  | n + 1, x2, x3, M =>
    (if (M 0 8) ≤ x3 then
    some (x2, M)
    else
    (if x3 < 0 ∨ 10 ≤ x3.toNatClampNeg then none else
    (if x3 < 0 ∨ 10 ≤ x3.toNatClampNeg then none else
    (if (P_J6_bitCount_0f7a4 (x1 &&& (M 4 x3.toNatClampNeg)) M) ≤ (M 5 x3.toNatClampNeg) then
    F_X12_against_b40 fu x1 (F_X12_against_b4 fu x1 n) x3 (0 : Int32) x2 M
    else
    F_X12_against_b40 fu x1 (F_X12_against_b4 fu x1 n) x3 ((1 : Int32) <<< (x3 &&& 31)) x2 M))))
set_option maxRecDepth 100000 in
set_option maxHeartbeats 4000000 in
theorem a_X12_against_b4 {l : Launch} (fu : Nat) (x1 : Int32)    : ∀ (n : Nat) (x2 : Int32) (x3 : Int32) (M : xM), AW SM l RX12 cX12_against 4 (some .int) 1 ki (F_X12_against_b4 fu x1 n x2 x3 M) 4 [some (xr 0), some (xi x1), some (xi x2), some (xi x3)] [] M := by
  intro n
  induction n with
  | zero =>
    intro x2 x3 M
    exact AW.none
  | succ n ih =>
    intro x2 x3 M
    rw [F_X12_against_b4]
    refine A_iload_n dX12_against_4 rfl ?_
    refine A_aload_n dX12_against_5 rfl ?_
    refine A_geti lf_X12_204 rfl rfl dX12_against_6 ?_
    refine A_icmp_ge (tgt := 48) dX12_against_9 (by decide) (fun _ => ?_) (fun _ => ?_)
    · refine A_iload_n dX12_against_48 rfl ?_
      exact A_iret rfl dX12_against_49
    · refine A_iload_n dX12_against_12 rfl ?_
      refine A_iload_n dX12_against_13 rfl ?_
      refine A_aload_n dX12_against_14 rfl ?_
      refine A_getr lf_X12_19 rfl rfl dX12_against_15 ?_
      refine A_iload_n dX12_against_18 rfl ?_
      refine A_iald rfl dX12_against_19 (fun _ => ?_)
      refine A_iand dX12_against_20 ?_
      refine A_callSp (a_J6_bitCount_0f7a4 (S := SM) (l := l) _ _ ) lc_X12_183 rfl (by decide) (Nat.le_of_ble_eq_true rfl) rfl dX12_against_21 ?_
      refine A_aload_n dX12_against_24 rfl ?_
      refine A_getr lf_X12_22 rfl rfl dX12_against_25 ?_
      refine A_iload_n dX12_against_28 rfl ?_
      refine A_iald rfl dX12_against_29 (fun _ => ?_)
      refine A_icmp_le (tgt := 39) dX12_against_30 (by decide) (fun _ => ?_) (fun _ => ?_)
      · refine A_iconst (v := (0 : Int32)) dX12_against_39 oI_0 ?_
        exact (a_X12_against_b40 (l := l) fu x1 ih _ _ _ _ ).sub ⟨rfl, rfl, rfl, trivial⟩
      · refine A_iconst (v := (1 : Int32)) dX12_against_33 oI_1 ?_
        refine A_iload_n dX12_against_34 rfl ?_
        refine A_ishl dX12_against_35 ?_
        refine A_goto (tgt := 40) dX12_against_36 (by decide) ?_
        exact (a_X12_against_b40 (l := l) fu x1 ih _ _ _ _ ).sub ⟨rfl, rfl, rfl, trivial⟩
def F_X12_against (fu : Nat)  (x1 : Int32)   (M : xM) : Option (Int32 × xM) :=
  F_X12_against_b4 fu x1 fu (0 : Int32) (0 : Int32) M
set_option maxRecDepth 100000 in
set_option maxHeartbeats 4000000 in
theorem w_X12_against {l : Launch} (fu : Nat) (x1 : Int32)     (M : xM)  : AW SM l RX12 cX12_against 4 (some .int) 1 ki (F_X12_against fu x1  M) 0 [some (xr 0), some (xi x1), none, none] [] M := by
  unfold F_X12_against
  refine A_iconst (v := (0 : Int32)) dX12_against_0 oI_0 ?_
  refine A_istore_n dX12_against_1 (Nat.le_of_ble_eq_true rfl) rfl ?_
  refine A_iconst (v := (0 : Int32)) dX12_against_2 oI_0 ?_
  refine A_istore_n dX12_against_3 (Nat.le_of_ble_eq_true rfl) rfl ?_
  exact (a_X12_against_b4 (l := l) fu x1  fu _ _ _).sub ⟨rfl, rfl, rfl, rfl, trivial⟩
theorem a_X12_against {l : Launch} (fu : Nat)  (x1 : Int32) (M : xM)  : AM SM l yX12_against cX12_against 4 (some .int) 1 ki [xr 0, xi x1] M (F_X12_against fu x1  M) :=
  AM.of (L0 := [some (xr 0), some (xi x1), none, none]) (w_X12_against (l := l) fu x1  M ) (by decide +kernel) rfl (Nat.le_of_ble_eq_true rfl) ⟨rfl, rfl, trivial⟩
def F_X12_isLawful_b2 (fu : Nat)  (x1 : Int32)  : Nat → Int32 → xM → Option (Int32 × xM)
  | 0, _, _ => none
  | n + 1, x2, M =>
    (if (M 0 7) ≤ x2 then
    some ((1 : Int32), M)
    else
    (if x2 < 0 ∨ 6 ≤ x2.toNatClampNeg then none else
    (if x2 < 0 ∨ 6 ≤ x2.toNatClampNeg then none else
    (if (P_J6_bitCount_0f7a4 (x1 &&& (M 1 x2.toNatClampNeg)) M) ≤ (M 2 x2.toNatClampNeg) then
    F_X12_isLawful_b2 fu x1 n (x2 + (1 : Int32)) M
    else
    some ((0 : Int32), M)))))
set_option maxRecDepth 100000 in
set_option maxHeartbeats 4000000 in
theorem a_X12_isLawful_b2 {l : Launch} (fu : Nat) (x1 : Int32)    : ∀ (n : Nat) (x2 : Int32) (M : xM), AW SM l RX12 cX12_isLawful 3 (some .boolean) 1 ki (F_X12_isLawful_b2 fu x1 n x2 M) 2 [some (xr 0), some (xi x1), some (xi x2)] [] M := by
  intro n
  induction n with
  | zero =>
    intro x2 M
    exact AW.none
  | succ n ih =>
    intro x2 M
    rw [F_X12_isLawful_b2]
    refine A_iload_n dX12_isLawful_2 rfl ?_
    refine A_aload_n dX12_isLawful_3 rfl ?_
    refine A_geti lf_X12_189 rfl rfl dX12_isLawful_4 ?_
    refine A_icmp_ge (tgt := 38) dX12_isLawful_7 (by decide) (fun _ => ?_) (fun _ => ?_)
    · refine A_iconst (v := (1 : Int32)) dX12_isLawful_38 oI_1 ?_
      exact A_zret' rfl (Or.inr rfl) dX12_isLawful_39
    · refine A_iload_n dX12_isLawful_10 rfl ?_
      refine A_aload_n dX12_isLawful_11 rfl ?_
      refine A_getr lf_X12_9 rfl rfl dX12_isLawful_12 ?_
      refine A_iload_n dX12_isLawful_15 rfl ?_
      refine A_iald rfl dX12_isLawful_16 (fun _ => ?_)
      refine A_iand dX12_isLawful_17 ?_
      refine A_callSp (a_J6_bitCount_0f7a4 (S := SM) (l := l) _ _ ) lc_X12_183 rfl (by decide) (Nat.le_of_ble_eq_true rfl) rfl dX12_isLawful_18 ?_
      refine A_aload_n dX12_isLawful_21 rfl ?_
      refine A_getr lf_X12_13 rfl rfl dX12_isLawful_22 ?_
      refine A_iload_n dX12_isLawful_25 rfl ?_
      refine A_iald rfl dX12_isLawful_26 (fun _ => ?_)
      refine A_icmp_le (tgt := 32) dX12_isLawful_27 (by decide) (fun _ => ?_) (fun _ => ?_)
      · refine A_iinc dX12_isLawful_32 rfl oI_1 (Nat.le_of_ble_eq_true rfl) rfl ?_
        refine A_goto (tgt := 2) dX12_isLawful_35 (by decide) ?_
        exact (ih _ _).sub ⟨rfl, rfl, rfl, trivial⟩
      · refine A_iconst (v := (0 : Int32)) dX12_isLawful_30 oI_0 ?_
        exact A_zret' rfl (Or.inl rfl) dX12_isLawful_31
def F_X12_isLawful (fu : Nat)  (x1 : Int32)   (M : xM) : Option (Int32 × xM) :=
  F_X12_isLawful_b2 fu x1 fu (0 : Int32) M
set_option maxRecDepth 100000 in
set_option maxHeartbeats 4000000 in
theorem w_X12_isLawful {l : Launch} (fu : Nat) (x1 : Int32)     (M : xM)  : AW SM l RX12 cX12_isLawful 3 (some .boolean) 1 ki (F_X12_isLawful fu x1  M) 0 [some (xr 0), some (xi x1), none] [] M := by
  unfold F_X12_isLawful
  refine A_iconst (v := (0 : Int32)) dX12_isLawful_0 oI_0 ?_
  refine A_istore_n dX12_isLawful_1 (Nat.le_of_ble_eq_true rfl) rfl ?_
  exact (a_X12_isLawful_b2 (l := l) fu x1  fu _ _).sub ⟨rfl, rfl, rfl, trivial⟩
theorem a_X12_isLawful {l : Launch} (fu : Nat)  (x1 : Int32) (M : xM)  : AM SM l yX12_isLawful cX12_isLawful 3 (some .boolean) 1 ki [xr 0, xi x1] M (F_X12_isLawful fu x1  M) :=
  AM.of (L0 := [some (xr 0), some (xi x1), none]) (w_X12_isLawful (l := l) fu x1  M ) (by decide +kernel) rfl (Nat.le_of_ble_eq_true rfl) ⟨rfl, rfl, trivial⟩
def F_X12_may_b47 (fu : Nat)  (x1 : Int32) (x2 : Int32)   (M : xM) : Option (Int32 × xM) :=
  some ((1 : Int32), M)
set_option maxRecDepth 100000 in
set_option maxHeartbeats 4000000 in
theorem a_X12_may_b47 {l : Launch} (fu : Nat) (x1 : Int32) (x2 : Int32)     (M : xM)  : AW SM l RX12 cX12_may 3 (some .int) 2 ki (F_X12_may_b47 fu x1 x2  M) 47 [none, none, none] [] M := by
  unfold F_X12_may_b47
  refine A_iconst (v := (1 : Int32)) dX12_may_47 oI_1 ?_
  refine A_goto (tgt := 52) dX12_may_48 (by decide) ?_
  exact A_iret rfl dX12_may_52
def F_X12_may (fu : Nat)  (x1 : Int32) (x2 : Int32)   (M : xM) : Option (Int32 × xM) :=
  (if (P_X12_isRow x1 (xset M 0 0 (0 : Int32))) = 0 then
  some ((-1 : Int32), (xset M 0 0 (0 : Int32)))
  else
  (if (P_X12_isIn x2 (0 : Int32) (1 : Int32) (xset M 0 0 (0 : Int32))) = 0 then
  some ((-1 : Int32), (xset M 0 0 (0 : Int32)))
  else
  (if x2 = 0 then
  (F_X12_against fu x1 (xset M 0 0 (0 : Int32))).bind fun q2 =>
  (if q2.1 = 0 then
  F_X12_may_b47 fu x1 x2  q2.2
  else
  some ((0 : Int32), q2.2))
  else
  (F_X12_isLawful fu x1 (xset M 0 0 (0 : Int32))).bind fun q1 =>
  (if q1.1 = 0 then
  some ((0 : Int32), q1.2)
  else
  F_X12_may_b47 fu x1 x2  q1.2))))
set_option maxRecDepth 100000 in
set_option maxHeartbeats 4000000 in
theorem w_X12_may {l : Launch} (fu : Nat) (x1 : Int32) (x2 : Int32)     (M : xM)  : AW SM l RX12 cX12_may 3 (some .int) 2 ki (F_X12_may fu x1 x2  M) 0 [some (xr 0), some (xi x1), some (xi x2)] [] M := by
  unfold F_X12_may
  refine A_aload_n dX12_may_0 rfl ?_
  refine A_iconst (v := (0 : Int32)) dX12_may_1 oI_0 ?_
  refine A_puti lf_X12_180 rfl rfl dX12_may_2 ?_
  refine A_aload_n dX12_may_5 rfl ?_
  refine A_iload_n dX12_may_6 rfl ?_
  refine A_callVp (a_X12_isRow (l := l) _ _ ) lc_X12_192 rfl rfl (by decide) (Nat.le_of_ble_eq_true rfl) rfl dX12_may_7 ?_
  refine A_if_eq (tgt := 22) dX12_may_10 (by decide) (fun _ => ?_) (fun _ => ?_)
  · refine A_iconst (v := (-1 : Int32)) dX12_may_22 oI_m1 ?_
    exact A_iret rfl dX12_may_23
  · refine A_iload_n dX12_may_13 rfl ?_
    refine A_iconst (v := (0 : Int32)) dX12_may_14 oI_0 ?_
    refine A_iconst (v := (1 : Int32)) dX12_may_15 oI_1 ?_
    refine A_callSp (a_X12_isIn (l := l) _ _ _ _ ) lc_X12_196 rfl (by decide) (Nat.le_of_ble_eq_true rfl) rfl dX12_may_16 ?_
    refine A_if_ne (tgt := 24) dX12_may_19 (by decide) (fun _ => ?_) (fun _ => ?_)
    · refine A_iconst (v := (-1 : Int32)) dX12_may_22 oI_m1 ?_
      exact A_iret rfl dX12_may_23
    · refine A_iload_n dX12_may_24 rfl ?_
      refine A_if_ne (tgt := 39) dX12_may_25 (by decide) (fun _ => ?_) (fun _ => ?_)
      · refine A_aload_n dX12_may_28 rfl ?_
        refine A_iload_n dX12_may_29 rfl ?_
        refine A_callVi (a_X12_against (l := l) fu _ _ ) lc_X12_207 rfl rfl (by decide) (Nat.le_of_ble_eq_true rfl) rfl dX12_may_30 (fun q2 Mq2 hq2 => ?_)
        refine A_if_ne (tgt := 51) dX12_may_33 (by decide) (fun _ => ?_) (fun _ => ?_)
        · refine A_goto (tgt := 47) dX12_may_36 (by decide) ?_
          exact (a_X12_may_b47 (l := l) fu x1 x2   _ ).sub trivial
        · refine A_iconst (v := (0 : Int32)) dX12_may_51 oI_0 ?_
          exact A_iret rfl dX12_may_52
      · refine A_aload_n dX12_may_39 rfl ?_
        refine A_iload_n dX12_may_40 rfl ?_
        refine A_callVi (a_X12_isLawful (l := l) fu _ _ ) lc_X12_210 rfl rfl (by decide) (Nat.le_of_ble_eq_true rfl) rfl dX12_may_41 (fun q1 Mq1 hq1 => ?_)
        refine A_if_eq (tgt := 51) dX12_may_44 (by decide) (fun _ => ?_) (fun _ => ?_)
        · refine A_iconst (v := (0 : Int32)) dX12_may_51 oI_0 ?_
          exact A_iret rfl dX12_may_52
        · exact (a_X12_may_b47 (l := l) fu x1 x2   _ ).sub trivial
theorem a_X12_may {l : Launch} (fu : Nat)  (x1 : Int32) (x2 : Int32) (M : xM)  : AM SM l yX12_may cX12_may 3 (some .int) 2 ki [xr 0, xi x1, xi x2] M (F_X12_may fu x1 x2  M) :=
  AM.of (L0 := [some (xr 0), some (xi x1), some (xi x2)]) (w_X12_may (l := l) fu x1 x2  M ) (by decide +kernel) rfl (Nat.le_of_ble_eq_true rfl) ⟨rfl, rfl, rfl, trivial⟩
def F_X12_proof_b66 (fu : Nat)  (x1 : Int32) (k18 : Int32 → xM → Option (Int32 × xM)) (x2 : Int32) (M : xM) : Option (Int32 × xM) :=
  k18 (x2 + (1 : Int32)) M
set_option maxRecDepth 100000 in
set_option maxHeartbeats 4000000 in
theorem a_X12_proof_b66 {l : Launch} (fu : Nat) (x1 : Int32)  {k18 : Int32 → xM → Option (Int32 × xM)} (hk18 : ∀ (b0 : Int32) (M : xM), AW SM l RX12 cX12_proof 4 (some .int) 2 ki (k18 b0 M) 18 [some (xr 0), some (xi x1), some (xi b0), none] [] M) (x2 : Int32) (M : xM)  : AW SM l RX12 cX12_proof 4 (some .int) 2 ki (F_X12_proof_b66 fu x1 k18 x2 M) 66 [some (xr 0), some (xi x1), some (xi x2), none] [] M := by
  unfold F_X12_proof_b66
  refine A_iinc dX12_proof_66 rfl oI_1 (Nat.le_of_ble_eq_true rfl) rfl ?_
  refine A_goto (tgt := 18) dX12_proof_69 (by decide) ?_
  exact (hk18 _ _).sub ⟨rfl, rfl, rfl, trivial⟩
def F_X12_proof_b61 (fu : Nat)  (x1 : Int32) (k18 : Int32 → xM → Option (Int32 × xM)) (x2 : Int32) (s0 : Int32) (s1 : Int32) (M : xM) : Option (Int32 × xM) :=
  (if s1 = s0 then
  some (x2, M)
  else
  F_X12_proof_b66 fu x1 k18 x2 M)
set_option maxRecDepth 100000 in
set_option maxHeartbeats 4000000 in
theorem a_X12_proof_b61 {l : Launch} (fu : Nat) (x1 : Int32)  {k18 : Int32 → xM → Option (Int32 × xM)} (hk18 : ∀ (b0 : Int32) (M : xM), AW SM l RX12 cX12_proof 4 (some .int) 2 ki (k18 b0 M) 18 [some (xr 0), some (xi x1), some (xi b0), none] [] M) (x2 : Int32) (s0 : Int32) (s1 : Int32) (M : xM)  : AW SM l RX12 cX12_proof 4 (some .int) 2 ki (F_X12_proof_b61 fu x1 k18 x2 s0 s1 M) 61 [some (xr 0), some (xi x1), some (xi x2), none] [xi s0, xi s1] M := by
  unfold F_X12_proof_b61
  refine A_icmp_ne (tgt := 66) dX12_proof_61 (by decide) (fun _ => ?_) (fun _ => ?_)
  · refine A_iload_n dX12_proof_64 rfl ?_
    exact A_iret rfl dX12_proof_65
  · exact (a_X12_proof_b66 (l := l) fu x1 hk18 _ _ ).sub ⟨rfl, rfl, rfl, trivial⟩
def F_X12_proof_b41 (fu : Nat)  (x1 : Int32) (k18 : Int32 → xM → Option (Int32 × xM)) (x2 : Int32) (s0 : Int32) (M : xM) : Option (Int32 × xM) :=
  (F_X12_isLawful fu x2 M).bind fun q1 =>
  (if s0 = q1.1 then
  F_X12_proof_b66 fu x1 k18 x2 q1.2
  else
  (if x1 = 0 then
  F_X12_proof_b61 fu x1 k18 x2 (1 : Int32) s0 q1.2
  else
  F_X12_proof_b61 fu x1 k18 x2 (0 : Int32) s0 q1.2))
set_option maxRecDepth 100000 in
set_option maxHeartbeats 4000000 in
theorem a_X12_proof_b41 {l : Launch} (fu : Nat) (x1 : Int32)  {k18 : Int32 → xM → Option (Int32 × xM)} (hk18 : ∀ (b0 : Int32) (M : xM), AW SM l RX12 cX12_proof 4 (some .int) 2 ki (k18 b0 M) 18 [some (xr 0), some (xi x1), some (xi b0), none] [] M) (x2 : Int32) (s0 : Int32) (M : xM)  : AW SM l RX12 cX12_proof 4 (some .int) 2 ki (F_X12_proof_b41 fu x1 k18 x2 s0 M) 41 [some (xr 0), some (xi x1), some (xi x2), none] [xi s0] M := by
  unfold F_X12_proof_b41
  refine A_istore_n dX12_proof_41 (Nat.le_of_ble_eq_true rfl) rfl ?_
  refine A_iload_n dX12_proof_42 rfl ?_
  refine A_aload_n dX12_proof_43 rfl ?_
  refine A_iload_n dX12_proof_44 rfl ?_
  refine A_callVi (a_X12_isLawful (l := l) fu _ _ ) lc_X12_210 rfl rfl (by decide) (Nat.le_of_ble_eq_true rfl) rfl dX12_proof_45 (fun q1 Mq1 hq1 => ?_)
  refine A_icmp_eq (tgt := 66) dX12_proof_48 (by decide) (fun _ => ?_) (fun _ => ?_)
  · exact (a_X12_proof_b66 (l := l) fu x1 hk18 _ _ ).sub ⟨rfl, rfl, rfl, trivial⟩
  · refine A_iload_n dX12_proof_51 rfl ?_
    refine A_iload_n dX12_proof_52 rfl ?_
    refine A_if_ne (tgt := 60) dX12_proof_53 (by decide) (fun _ => ?_) (fun _ => ?_)
    · refine A_iconst (v := (1 : Int32)) dX12_proof_56 oI_1 ?_
      refine A_goto (tgt := 61) dX12_proof_57 (by decide) ?_
      exact (a_X12_proof_b61 (l := l) fu x1 hk18 _ _ _ _ ).sub ⟨rfl, rfl, rfl, trivial⟩
    · refine A_iconst (v := (0 : Int32)) dX12_proof_60 oI_0 ?_
      exact (a_X12_proof_b61 (l := l) fu x1 hk18 _ _ _ _ ).sub ⟨rfl, rfl, rfl, trivial⟩
def F_X12_proof_b18 (fu : Nat)  (x1 : Int32)  : Nat → Int32 → xM → Option (Int32 × xM)
  | 0, _, _ => none
  | n + 1, x2, M =>
    (if ((1 : Int32) <<< ((M 0 1) &&& 31)) ≤ x2 then
    some ((-1 : Int32), M)
    else
    (F_X12_against fu x2 M).bind fun q1 =>
    (if q1.1 = 0 then
    F_X12_proof_b41 fu x1 (F_X12_proof_b18 fu x1 n) x2 (1 : Int32) q1.2
    else
    F_X12_proof_b41 fu x1 (F_X12_proof_b18 fu x1 n) x2 (0 : Int32) q1.2))
set_option maxRecDepth 100000 in
set_option maxHeartbeats 4000000 in
theorem a_X12_proof_b18 {l : Launch} (fu : Nat) (x1 : Int32)    : ∀ (n : Nat) (x2 : Int32) (M : xM), AW SM l RX12 cX12_proof 4 (some .int) 2 ki (F_X12_proof_b18 fu x1 n x2 M) 18 [some (xr 0), some (xi x1), some (xi x2), none] [] M := by
  intro n
  induction n with
  | zero =>
    intro x2 M
    exact AW.none
  | succ n ih =>
    intro x2 M
    rw [F_X12_proof_b18]
    refine A_iload_n dX12_proof_18 rfl ?_
    refine A_iconst (v := (1 : Int32)) dX12_proof_19 oI_1 ?_
    refine A_aload_n dX12_proof_20 rfl ?_
    refine A_geti lf_X12_177 rfl rfl dX12_proof_21 ?_
    refine A_ishl dX12_proof_24 ?_
    refine A_icmp_ge (tgt := 72) dX12_proof_25 (by decide) (fun _ => ?_) (fun _ => ?_)
    · refine A_iconst (v := (-1 : Int32)) dX12_proof_72 oI_m1 ?_
      exact A_iret rfl dX12_proof_73
    · refine A_aload_n dX12_proof_28 rfl ?_
      refine A_iload_n dX12_proof_29 rfl ?_
      refine A_callVi (a_X12_against (l := l) fu _ _ ) lc_X12_207 rfl rfl (by decide) (Nat.le_of_ble_eq_true rfl) rfl dX12_proof_30 (fun q1 Mq1 hq1 => ?_)
      refine A_if_ne (tgt := 40) dX12_proof_33 (by decide) (fun _ => ?_) (fun _ => ?_)
      · refine A_iconst (v := (1 : Int32)) dX12_proof_36 oI_1 ?_
        refine A_goto (tgt := 41) dX12_proof_37 (by decide) ?_
        exact (a_X12_proof_b41 (l := l) fu x1 ih _ _ _ ).sub ⟨rfl, rfl, rfl, trivial⟩
      · refine A_iconst (v := (0 : Int32)) dX12_proof_40 oI_0 ?_
        exact (a_X12_proof_b41 (l := l) fu x1 ih _ _ _ ).sub ⟨rfl, rfl, rfl, trivial⟩
def F_X12_proof (fu : Nat)  (x1 : Int32)   (M : xM) : Option (Int32 × xM) :=
  (if (P_X12_isIn x1 (0 : Int32) (1 : Int32) (xset M 0 0 (0 : Int32))) = 0 then
  some ((-1 : Int32), (xset M 0 0 (0 : Int32)))
  else
  F_X12_proof_b18 fu x1 fu (0 : Int32) (xset M 0 0 (0 : Int32)))
set_option maxRecDepth 100000 in
set_option maxHeartbeats 4000000 in
theorem w_X12_proof {l : Launch} (fu : Nat) (x1 : Int32)     (M : xM)  : AW SM l RX12 cX12_proof 4 (some .int) 2 ki (F_X12_proof fu x1  M) 0 [some (xr 0), some (xi x1), none, none] [] M := by
  unfold F_X12_proof
  refine A_aload_n dX12_proof_0 rfl ?_
  refine A_iconst (v := (0 : Int32)) dX12_proof_1 oI_0 ?_
  refine A_puti lf_X12_180 rfl rfl dX12_proof_2 ?_
  refine A_iload_n dX12_proof_5 rfl ?_
  refine A_iconst (v := (0 : Int32)) dX12_proof_6 oI_0 ?_
  refine A_iconst (v := (1 : Int32)) dX12_proof_7 oI_1 ?_
  refine A_callSp (a_X12_isIn (l := l) _ _ _ _ ) lc_X12_196 rfl (by decide) (Nat.le_of_ble_eq_true rfl) rfl dX12_proof_8 ?_
  refine A_if_ne (tgt := 16) dX12_proof_11 (by decide) (fun _ => ?_) (fun _ => ?_)
  · refine A_iconst (v := (-1 : Int32)) dX12_proof_14 oI_m1 ?_
    exact A_iret rfl dX12_proof_15
  · refine A_iconst (v := (0 : Int32)) dX12_proof_16 oI_0 ?_
    refine A_istore_n dX12_proof_17 (Nat.le_of_ble_eq_true rfl) rfl ?_
    exact (a_X12_proof_b18 (l := l) fu x1  fu _ _).sub ⟨rfl, rfl, rfl, trivial⟩
theorem a_X12_proof {l : Launch} (fu : Nat)  (x1 : Int32) (M : xM)  : AM SM l yX12_proof cX12_proof 4 (some .int) 2 ki [xr 0, xi x1] M (F_X12_proof fu x1  M) :=
  AM.of (L0 := [some (xr 0), some (xi x1), none, none]) (w_X12_proof (l := l) fu x1  M ) (by decide +kernel) rfl (Nat.le_of_ble_eq_true rfl) ⟨rfl, rfl, trivial⟩
def F_X12_rows_b33 (fu : Nat)   (k9 : Int32 → Int32 → xM → Option (Int32 × xM)) (x2 : Int32) (s0 : Int32) (s1 : Int32) (M : xM) : Option (Int32 × xM) :=
  k9 (s1 + s0) (x2 + (1 : Int32)) M
set_option maxRecDepth 100000 in
set_option maxHeartbeats 4000000 in
theorem a_X12_rows_b33 {l : Launch} (fu : Nat)   {k9 : Int32 → Int32 → xM → Option (Int32 × xM)} (hk9 : ∀ (b0 : Int32) (b1 : Int32) (M : xM), AW SM l RX12 cX12_rows 3 (some .int) 2 ki (k9 b0 b1 M) 9 [some (xr 0), some (xi b0), some (xi b1)] [] M) (x2 : Int32) (s0 : Int32) (s1 : Int32) (M : xM)  : AW SM l RX12 cX12_rows 3 (some .int) 2 ki (F_X12_rows_b33 fu k9 x2 s0 s1 M) 33 [some (xr 0), none, some (xi x2)] [xi s0, xi s1] M := by
  unfold F_X12_rows_b33
  refine A_iadd dX12_rows_33 ?_
  refine A_istore_n dX12_rows_34 (Nat.le_of_ble_eq_true rfl) rfl ?_
  refine A_iinc dX12_rows_35 rfl oI_1 (Nat.le_of_ble_eq_true rfl) rfl ?_
  refine A_goto (tgt := 9) dX12_rows_38 (by decide) ?_
  exact (hk9 _ _ _).sub ⟨rfl, rfl, rfl, trivial⟩
def F_X12_rows_b9 (fu : Nat)    : Nat → Int32 → Int32 → xM → Option (Int32 × xM)
  | 0, _, _, _ => none
  | n + 1, x1, x2, M =>
    (if ((1 : Int32) <<< ((M 0 1) &&& 31)) ≤ x2 then
    some (x1, M)
    else
    (F_X12_against fu x2 M).bind fun q1 =>
    (if q1.1 = 0 then
    F_X12_rows_b33 fu (F_X12_rows_b9 fu n) x2 (1 : Int32) x1 q1.2
    else
    F_X12_rows_b33 fu (F_X12_rows_b9 fu n) x2 (0 : Int32) x1 q1.2))
set_option maxRecDepth 100000 in
set_option maxHeartbeats 4000000 in
theorem a_X12_rows_b9 {l : Launch} (fu : Nat)     : ∀ (n : Nat) (x1 : Int32) (x2 : Int32) (M : xM), AW SM l RX12 cX12_rows 3 (some .int) 2 ki (F_X12_rows_b9 fu n x1 x2 M) 9 [some (xr 0), some (xi x1), some (xi x2)] [] M := by
  intro n
  induction n with
  | zero =>
    intro x1 x2 M
    exact AW.none
  | succ n ih =>
    intro x1 x2 M
    rw [F_X12_rows_b9]
    refine A_iload_n dX12_rows_9 rfl ?_
    refine A_iconst (v := (1 : Int32)) dX12_rows_10 oI_1 ?_
    refine A_aload_n dX12_rows_11 rfl ?_
    refine A_geti lf_X12_177 rfl rfl dX12_rows_12 ?_
    refine A_ishl dX12_rows_15 ?_
    refine A_icmp_ge (tgt := 41) dX12_rows_16 (by decide) (fun _ => ?_) (fun _ => ?_)
    · refine A_iload_n dX12_rows_41 rfl ?_
      exact A_iret rfl dX12_rows_42
    · refine A_iload_n dX12_rows_19 rfl ?_
      refine A_aload_n dX12_rows_20 rfl ?_
      refine A_iload_n dX12_rows_21 rfl ?_
      refine A_callVi (a_X12_against (l := l) fu _ _ ) lc_X12_207 rfl rfl (by decide) (Nat.le_of_ble_eq_true rfl) rfl dX12_rows_22 (fun q1 Mq1 hq1 => ?_)
      refine A_if_ne (tgt := 32) dX12_rows_25 (by decide) (fun _ => ?_) (fun _ => ?_)
      · refine A_iconst (v := (1 : Int32)) dX12_rows_28 oI_1 ?_
        refine A_goto (tgt := 33) dX12_rows_29 (by decide) ?_
        exact (a_X12_rows_b33 (l := l) fu ih _ _ _ _ ).sub ⟨rfl, rfl, trivial⟩
      · refine A_iconst (v := (0 : Int32)) dX12_rows_32 oI_0 ?_
        exact (a_X12_rows_b33 (l := l) fu ih _ _ _ _ ).sub ⟨rfl, rfl, trivial⟩
def F_X12_rows (fu : Nat)     (M : xM) : Option (Int32 × xM) :=
  F_X12_rows_b9 fu fu (0 : Int32) (0 : Int32) (xset M 0 0 (0 : Int32))
set_option maxRecDepth 100000 in
set_option maxHeartbeats 4000000 in
theorem w_X12_rows {l : Launch} (fu : Nat)      (M : xM)  : AW SM l RX12 cX12_rows 3 (some .int) 2 ki (F_X12_rows fu  M) 0 [some (xr 0), none, none] [] M := by
  unfold F_X12_rows
  refine A_aload_n dX12_rows_0 rfl ?_
  refine A_iconst (v := (0 : Int32)) dX12_rows_1 oI_0 ?_
  refine A_puti lf_X12_180 rfl rfl dX12_rows_2 ?_
  refine A_iconst (v := (0 : Int32)) dX12_rows_5 oI_0 ?_
  refine A_istore_n dX12_rows_6 (Nat.le_of_ble_eq_true rfl) rfl ?_
  refine A_iconst (v := (0 : Int32)) dX12_rows_7 oI_0 ?_
  refine A_istore_n dX12_rows_8 (Nat.le_of_ble_eq_true rfl) rfl ?_
  exact (a_X12_rows_b9 (l := l) fu  fu _ _ _).sub ⟨rfl, rfl, rfl, trivial⟩
theorem a_X12_rows {l : Launch} (fu : Nat)   (M : xM)  : AM SM l yX12_rows cX12_rows 3 (some .int) 2 ki [xr 0] M (F_X12_rows fu   M) :=
  AM.of (L0 := [some (xr 0), none, none]) (w_X12_rows (l := l) fu  M ) (by decide +kernel) rfl (Nat.le_of_ble_eq_true rfl) ⟨rfl, trivial⟩
def F_X12_isEnough_b29 (fu : Nat)  (x1 : Int32) (k2 : Int32 → xM → Option (Int32 × xM)) (x2 : Int32) (M : xM) : Option (Int32 × xM) :=
  k2 (x2 + (1 : Int32)) M
set_option maxRecDepth 100000 in
set_option maxHeartbeats 4000000 in
theorem a_X12_isEnough_b29 {l : Launch} (fu : Nat) (x1 : Int32)  {k2 : Int32 → xM → Option (Int32 × xM)} (hk2 : ∀ (b0 : Int32) (M : xM), AW SM l RX12 cX12_isEnough 3 (some .boolean) 0 ki (k2 b0 M) 2 [some (xr 0), some (xi x1), some (xi b0)] [] M) (x2 : Int32) (M : xM)  : AW SM l RX12 cX12_isEnough 3 (some .boolean) 0 ki (F_X12_isEnough_b29 fu x1 k2 x2 M) 29 [some (xr 0), some (xi x1), some (xi x2)] [] M := by
  unfold F_X12_isEnough_b29
  refine A_iinc dX12_isEnough_29 rfl oI_1 (Nat.le_of_ble_eq_true rfl) rfl ?_
  refine A_goto (tgt := 2) dX12_isEnough_32 (by decide) ?_
  exact (hk2 _ _).sub ⟨rfl, rfl, rfl, trivial⟩
def F_X12_isEnough_b2 (fu : Nat)  (x1 : Int32)  : Nat → Int32 → xM → Option (Int32 × xM)
  | 0, _, _ => none
  | n + 1, x2, M =>
    (if ((1 : Int32) <<< ((M 0 8) &&& 31)) ≤ x2 then
    some ((1 : Int32), M)
    else
    (if x2 < 0 ∨ 1024 ≤ x2.toNatClampNeg then none else
    (if (M 6 x2.toNatClampNeg) = 0 then
    F_X12_isEnough_b29 fu x1 (F_X12_isEnough_b2 fu x1 n) x2 M
    else
    (if (x2 &&& x1) = 0 then
    some ((0 : Int32), M)
    else
    F_X12_isEnough_b29 fu x1 (F_X12_isEnough_b2 fu x1 n) x2 M))))
set_option maxRecDepth 100000 in
set_option maxHeartbeats 4000000 in
theorem a_X12_isEnough_b2 {l : Launch} (fu : Nat) (x1 : Int32)    : ∀ (n : Nat) (x2 : Int32) (M : xM), AW SM l RX12 cX12_isEnough 3 (some .boolean) 0 ki (F_X12_isEnough_b2 fu x1 n x2 M) 2 [some (xr 0), some (xi x1), some (xi x2)] [] M := by
  intro n
  induction n with
  | zero =>
    intro x2 M
    exact AW.none
  | succ n ih =>
    intro x2 M
    rw [F_X12_isEnough_b2]
    refine A_iload_n dX12_isEnough_2 rfl ?_
    refine A_iconst (v := (1 : Int32)) dX12_isEnough_3 oI_1 ?_
    refine A_aload_n dX12_isEnough_4 rfl ?_
    refine A_geti lf_X12_204 rfl rfl dX12_isEnough_5 ?_
    refine A_ishl dX12_isEnough_8 ?_
    refine A_icmp_ge (tgt := 35) dX12_isEnough_9 (by decide) (fun _ => ?_) (fun _ => ?_)
    · refine A_iconst (v := (1 : Int32)) dX12_isEnough_35 oI_1 ?_
      exact A_zret' rfl (Or.inr rfl) dX12_isEnough_36
    · refine A_aload_n dX12_isEnough_12 rfl ?_
      refine A_getr lf_X12_25 rfl rfl dX12_isEnough_13 ?_
      refine A_iload_n dX12_isEnough_16 rfl ?_
      refine A_zald rfl dX12_isEnough_17 (fun _ => ?_)
      refine A_if_eq (tgt := 29) dX12_isEnough_18 (by decide) (fun _ => ?_) (fun _ => ?_)
      · exact (a_X12_isEnough_b29 (l := l) fu x1 ih _ _ ).sub ⟨rfl, rfl, rfl, trivial⟩
      · refine A_iload_n dX12_isEnough_21 rfl ?_
        refine A_iload_n dX12_isEnough_22 rfl ?_
        refine A_iand dX12_isEnough_23 ?_
        refine A_if_ne (tgt := 29) dX12_isEnough_24 (by decide) (fun _ => ?_) (fun _ => ?_)
        · refine A_iconst (v := (0 : Int32)) dX12_isEnough_27 oI_0 ?_
          exact A_zret' rfl (Or.inl rfl) dX12_isEnough_28
        · exact (a_X12_isEnough_b29 (l := l) fu x1 ih _ _ ).sub ⟨rfl, rfl, rfl, trivial⟩
def F_X12_isEnough (fu : Nat)  (x1 : Int32)   (M : xM) : Option (Int32 × xM) :=
  F_X12_isEnough_b2 fu x1 fu (1 : Int32) M
set_option maxRecDepth 100000 in
set_option maxHeartbeats 4000000 in
theorem w_X12_isEnough {l : Launch} (fu : Nat) (x1 : Int32)     (M : xM)  : AW SM l RX12 cX12_isEnough 3 (some .boolean) 0 ki (F_X12_isEnough fu x1  M) 0 [some (xr 0), some (xi x1), none] [] M := by
  unfold F_X12_isEnough
  refine A_iconst (v := (1 : Int32)) dX12_isEnough_0 oI_1 ?_
  refine A_istore_n dX12_isEnough_1 (Nat.le_of_ble_eq_true rfl) rfl ?_
  exact (a_X12_isEnough_b2 (l := l) fu x1  fu _ _).sub ⟨rfl, rfl, rfl, trivial⟩
theorem a_X12_isEnough {l : Launch} (fu : Nat)  (x1 : Int32) (M : xM)  : AM SM l yX12_isEnough cX12_isEnough 3 (some .boolean) 0 ki [xr 0, xi x1] M (F_X12_isEnough fu x1  M) :=
  AM.of (L0 := [some (xr 0), some (xi x1), none]) (w_X12_isEnough (l := l) fu x1  M ) (by decide +kernel) rfl (Nat.le_of_ble_eq_true rfl) ⟨rfl, rfl, trivial⟩
def F_X12_need_b93 (fu : Nat)   (k60 : Int32 → Int32 → xM → Option (Int32 × xM)) (x1 : Int32) (x2 : Int32) (M : xM) : Option (Int32 × xM) :=
  k60 x1 (x2 + (1 : Int32)) M
set_option maxRecDepth 100000 in
set_option maxHeartbeats 4000000 in
theorem a_X12_need_b93 {l : Launch} (fu : Nat)   {k60 : Int32 → Int32 → xM → Option (Int32 × xM)} (hk60 : ∀ (b0 : Int32) (b1 : Int32) (M : xM), AW SM l RX12 cX12_need 3 (some .int) 2 ki (k60 b0 b1 M) 60 [some (xr 0), some (xi b0), some (xi b1)] [] M) (x1 : Int32) (x2 : Int32) (M : xM)  : AW SM l RX12 cX12_need 3 (some .int) 2 ki (F_X12_need_b93 fu k60 x1 x2 M) 93 [some (xr 0), some (xi x1), some (xi x2)] [] M := by
  unfold F_X12_need_b93
  refine A_iinc dX12_need_93 rfl oI_1 (Nat.le_of_ble_eq_true rfl) rfl ?_
  refine A_goto (tgt := 60) dX12_need_96 (by decide) ?_
  exact (hk60 _ _ _).sub ⟨rfl, rfl, rfl, trivial⟩
def F_X12_need_b83 (fu : Nat)   (k60 : Int32 → Int32 → xM → Option (Int32 × xM)) (x1 : Int32) (x2 : Int32) (M : xM) : Option (Int32 × xM) :=
  (F_X12_isEnough fu x2 M).bind fun q1 =>
  (if q1.1 = 0 then
  F_X12_need_b93 fu k60 x1 x2 q1.2
  else
  F_X12_need_b93 fu k60 x2 x2 q1.2)
set_option maxRecDepth 100000 in
set_option maxHeartbeats 4000000 in
theorem a_X12_need_b83 {l : Launch} (fu : Nat)   {k60 : Int32 → Int32 → xM → Option (Int32 × xM)} (hk60 : ∀ (b0 : Int32) (b1 : Int32) (M : xM), AW SM l RX12 cX12_need 3 (some .int) 2 ki (k60 b0 b1 M) 60 [some (xr 0), some (xi b0), some (xi b1)] [] M) (x1 : Int32) (x2 : Int32) (M : xM)  : AW SM l RX12 cX12_need 3 (some .int) 2 ki (F_X12_need_b83 fu k60 x1 x2 M) 83 [some (xr 0), some (xi x1), some (xi x2)] [] M := by
  unfold F_X12_need_b83
  refine A_aload_n dX12_need_83 rfl ?_
  refine A_iload_n dX12_need_84 rfl ?_
  refine A_callVi (a_X12_isEnough (l := l) fu _ _ ) lc_X12_216 rfl rfl (by decide) (Nat.le_of_ble_eq_true rfl) rfl dX12_need_85 (fun q1 Mq1 hq1 => ?_)
  refine A_if_eq (tgt := 93) dX12_need_88 (by decide) (fun _ => ?_) (fun _ => ?_)
  · exact (a_X12_need_b93 (l := l) fu hk60 _ _ _ ).sub ⟨rfl, rfl, rfl, trivial⟩
  · refine A_iload_n dX12_need_91 rfl ?_
    refine A_istore_n dX12_need_92 (Nat.le_of_ble_eq_true rfl) rfl ?_
    exact (a_X12_need_b93 (l := l) fu hk60 _ _ _ ).sub ⟨rfl, rfl, rfl, trivial⟩
def F_X12_need_b60 (fu : Nat)    : Nat → Int32 → Int32 → xM → Option (Int32 × xM)
  | 0, _, _, _ => none
  | n + 1, x1, x2, M =>
    (if ((1 : Int32) <<< ((M 0 8) &&& 31)) ≤ x2 then
    some (x1, M)
    else
    (if x1 = (-1 : Int32) then
    F_X12_need_b83 fu (F_X12_need_b60 fu n) x1 x2 M
    else
    (if (P_X12_isBefore x2 x1 M) = 0 then
    F_X12_need_b93 fu (F_X12_need_b60 fu n) x1 x2 M
    else
    F_X12_need_b83 fu (F_X12_need_b60 fu n) x1 x2 M)))
set_option maxRecDepth 100000 in
set_option maxHeartbeats 4000000 in
theorem a_X12_need_b60 {l : Launch} (fu : Nat)     : ∀ (n : Nat) (x1 : Int32) (x2 : Int32) (M : xM), AW SM l RX12 cX12_need 3 (some .int) 2 ki (F_X12_need_b60 fu n x1 x2 M) 60 [some (xr 0), some (xi x1), some (xi x2)] [] M := by
  intro n
  induction n with
  | zero =>
    intro x1 x2 M
    exact AW.none
  | succ n ih =>
    intro x1 x2 M
    rw [F_X12_need_b60]
    refine A_iload_n dX12_need_60 rfl ?_
    refine A_iconst (v := (1 : Int32)) dX12_need_61 oI_1 ?_
    refine A_aload_n dX12_need_62 rfl ?_
    refine A_geti lf_X12_204 rfl rfl dX12_need_63 ?_
    refine A_ishl dX12_need_66 ?_
    refine A_icmp_ge (tgt := 99) dX12_need_67 (by decide) (fun _ => ?_) (fun _ => ?_)
    · refine A_iload_n dX12_need_99 rfl ?_
      exact A_iret rfl dX12_need_100
    · refine A_iload_n dX12_need_70 rfl ?_
      refine A_iconst (v := (-1 : Int32)) dX12_need_71 oI_m1 ?_
      refine A_icmp_eq (tgt := 83) dX12_need_72 (by decide) (fun _ => ?_) (fun _ => ?_)
      · exact (a_X12_need_b83 (l := l) fu ih _ _ _ ).sub ⟨rfl, rfl, rfl, trivial⟩
      · refine A_iload_n dX12_need_75 rfl ?_
        refine A_iload_n dX12_need_76 rfl ?_
        refine A_callSp (a_X12_isBefore (l := l) _ _ _ ) lc_X12_213 rfl (by decide) (Nat.le_of_ble_eq_true rfl) rfl dX12_need_77 ?_
        refine A_if_eq (tgt := 93) dX12_need_80 (by decide) (fun _ => ?_) (fun _ => ?_)
        · exact (a_X12_need_b93 (l := l) fu ih _ _ _ ).sub ⟨rfl, rfl, rfl, trivial⟩
        · exact (a_X12_need_b83 (l := l) fu ih _ _ _ ).sub ⟨rfl, rfl, rfl, trivial⟩
def F_X12_need_b29 (fu : Nat)    : Nat → Int32 → xM → Option (Int32 × xM)
  | 0, _, _ => none
  | n + 1, x1, M =>
    (if ((1 : Int32) <<< ((M 0 1) &&& 31)) ≤ x1 then
    F_X12_need_b60 fu fu (-1 : Int32) (0 : Int32) M
    else
    (F_X12_against fu x1 M).bind fun q1 =>
    (if q1.1 < 0 ∨ 1024 ≤ q1.1.toNatClampNeg then none else
    F_X12_need_b29 fu n (x1 + (1 : Int32)) (xset q1.2 6 q1.1.toNatClampNeg (vp_nar .boolean (1 : Int32)))))
set_option maxRecDepth 100000 in
set_option maxHeartbeats 4000000 in
theorem a_X12_need_b29 {l : Launch} (fu : Nat)     : ∀ (n : Nat) (x1 : Int32) (M : xM), AW SM l RX12 cX12_need 3 (some .int) 2 ki (F_X12_need_b29 fu n x1 M) 29 [some (xr 0), some (xi x1), none] [] M := by
  intro n
  induction n with
  | zero =>
    intro x1 M
    exact AW.none
  | succ n ih =>
    intro x1 M
    rw [F_X12_need_b29]
    refine A_iload_n dX12_need_29 rfl ?_
    refine A_iconst (v := (1 : Int32)) dX12_need_30 oI_1 ?_
    refine A_aload_n dX12_need_31 rfl ?_
    refine A_geti lf_X12_177 rfl rfl dX12_need_32 ?_
    refine A_ishl dX12_need_35 ?_
    refine A_icmp_ge (tgt := 56) dX12_need_36 (by decide) (fun _ => ?_) (fun _ => ?_)
    · refine A_iconst (v := (-1 : Int32)) dX12_need_56 oI_m1 ?_
      refine A_istore_n dX12_need_57 (Nat.le_of_ble_eq_true rfl) rfl ?_
      refine A_iconst (v := (0 : Int32)) dX12_need_58 oI_0 ?_
      refine A_istore_n dX12_need_59 (Nat.le_of_ble_eq_true rfl) rfl ?_
      exact (a_X12_need_b60 (l := l) fu  fu _ _ _).sub ⟨rfl, rfl, rfl, trivial⟩
    · refine A_aload_n dX12_need_39 rfl ?_
      refine A_getr lf_X12_25 rfl rfl dX12_need_40 ?_
      refine A_aload_n dX12_need_43 rfl ?_
      refine A_iload_n dX12_need_44 rfl ?_
      refine A_callVi (a_X12_against (l := l) fu _ _ ) lc_X12_207 rfl rfl (by decide) (Nat.le_of_ble_eq_true rfl) rfl dX12_need_45 (fun q1 Mq1 hq1 => ?_)
      refine A_iconst (v := (1 : Int32)) dX12_need_48 oI_1 ?_
      refine A_zast rfl dX12_need_49 (fun _ => ?_)
      refine A_iinc dX12_need_50 rfl oI_1 (Nat.le_of_ble_eq_true rfl) rfl ?_
      refine A_goto (tgt := 29) dX12_need_53 (by decide) ?_
      exact (ih _ _).sub ⟨rfl, rfl, trivial⟩
def F_X12_need_b7 (fu : Nat)    : Nat → Int32 → xM → Option (Int32 × xM)
  | 0, _, _ => none
  | n + 1, x1, M =>
    (if (1024 : Int32) ≤ x1 then
    F_X12_need_b29 fu fu (0 : Int32) M
    else
    (if x1 < 0 ∨ 1024 ≤ x1.toNatClampNeg then none else
    F_X12_need_b7 fu n (x1 + (1 : Int32)) (xset M 6 x1.toNatClampNeg (vp_nar .boolean (0 : Int32)))))
set_option maxRecDepth 100000 in
set_option maxHeartbeats 4000000 in
theorem a_X12_need_b7 {l : Launch} (fu : Nat)     : ∀ (n : Nat) (x1 : Int32) (M : xM), AW SM l RX12 cX12_need 3 (some .int) 2 ki (F_X12_need_b7 fu n x1 M) 7 [some (xr 0), some (xi x1), none] [] M := by
  intro n
  induction n with
  | zero =>
    intro x1 M
    exact AW.none
  | succ n ih =>
    intro x1 M
    rw [F_X12_need_b7]
    refine A_iload_n dX12_need_7 rfl ?_
    refine A_sipush (v := (1024 : Int32)) dX12_need_8 oS_1024 ?_
    refine A_icmp_ge (tgt := 27) dX12_need_11 (by decide) (fun _ => ?_) (fun _ => ?_)
    · refine A_iconst (v := (0 : Int32)) dX12_need_27 oI_0 ?_
      refine A_istore_n dX12_need_28 (Nat.le_of_ble_eq_true rfl) rfl ?_
      exact (a_X12_need_b29 (l := l) fu  fu _ _).sub ⟨rfl, rfl, trivial⟩
    · refine A_aload_n dX12_need_14 rfl ?_
      refine A_getr lf_X12_25 rfl rfl dX12_need_15 ?_
      refine A_iload_n dX12_need_18 rfl ?_
      refine A_iconst (v := (0 : Int32)) dX12_need_19 oI_0 ?_
      refine A_zast rfl dX12_need_20 (fun _ => ?_)
      refine A_iinc dX12_need_21 rfl oI_1 (Nat.le_of_ble_eq_true rfl) rfl ?_
      refine A_goto (tgt := 7) dX12_need_24 (by decide) ?_
      exact (ih _ _).sub ⟨rfl, rfl, trivial⟩
def F_X12_need (fu : Nat)     (M : xM) : Option (Int32 × xM) :=
  F_X12_need_b7 fu fu (0 : Int32) (xset M 0 0 (0 : Int32))
set_option maxRecDepth 100000 in
set_option maxHeartbeats 4000000 in
theorem w_X12_need {l : Launch} (fu : Nat)      (M : xM)  : AW SM l RX12 cX12_need 3 (some .int) 2 ki (F_X12_need fu  M) 0 [some (xr 0), none, none] [] M := by
  unfold F_X12_need
  refine A_aload_n dX12_need_0 rfl ?_
  refine A_iconst (v := (0 : Int32)) dX12_need_1 oI_0 ?_
  refine A_puti lf_X12_180 rfl rfl dX12_need_2 ?_
  refine A_iconst (v := (0 : Int32)) dX12_need_5 oI_0 ?_
  refine A_istore_n dX12_need_6 (Nat.le_of_ble_eq_true rfl) rfl ?_
  exact (a_X12_need_b7 (l := l) fu  fu _ _).sub ⟨rfl, rfl, trivial⟩
theorem a_X12_need {l : Launch} (fu : Nat)   (M : xM)  : AM SM l yX12_need cX12_need 3 (some .int) 2 ki [xr 0] M (F_X12_need fu   M) :=
  AM.of (L0 := [some (xr 0), none, none]) (w_X12_need (l := l) fu  M ) (by decide +kernel) rfl (Nat.le_of_ble_eq_true rfl) ⟨rfl, trivial⟩
def F_X12_orders_b38 (fu : Nat)  (x1 : Int32)  : Nat → Int32 → Int32 → xM → Option (Int32 × xM)
  | 0, _, _, _ => none
  | n + 1, x2, x3, M =>
    (if (P_J6_bitCount_0f7a4 x1 M) < x3 then
    some (x2, M)
    else
    F_X12_orders_b38 fu x1 n (x2 * x3) (x3 + (1 : Int32)) M)
set_option maxRecDepth 100000 in
set_option maxHeartbeats 4000000 in
theorem a_X12_orders_b38 {l : Launch} (fu : Nat) (x1 : Int32)    : ∀ (n : Nat) (x2 : Int32) (x3 : Int32) (M : xM), AW SM l RX12 cX12_orders 4 (some .int) 2 ki (F_X12_orders_b38 fu x1 n x2 x3 M) 38 [none, some (xi x1), some (xi x2), some (xi x3)] [] M := by
  intro n
  induction n with
  | zero =>
    intro x2 x3 M
    exact AW.none
  | succ n ih =>
    intro x2 x3 M
    rw [F_X12_orders_b38]
    refine A_iload_n dX12_orders_38 rfl ?_
    refine A_iload_n dX12_orders_39 rfl ?_
    refine A_callSp (a_J6_bitCount_0f7a4 (S := SM) (l := l) _ _ ) lc_X12_183 rfl (by decide) (Nat.le_of_ble_eq_true rfl) rfl dX12_orders_40 ?_
    refine A_icmp_gt (tgt := 56) dX12_orders_43 (by decide) (fun _ => ?_) (fun _ => ?_)
    · refine A_iload_n dX12_orders_56 rfl ?_
      exact A_iret rfl dX12_orders_57
    · refine A_iload_n dX12_orders_46 rfl ?_
      refine A_iload_n dX12_orders_47 rfl ?_
      refine A_imul dX12_orders_48 ?_
      refine A_istore_n dX12_orders_49 (Nat.le_of_ble_eq_true rfl) rfl ?_
      refine A_iinc dX12_orders_50 rfl oI_1 (Nat.le_of_ble_eq_true rfl) rfl ?_
      refine A_goto (tgt := 38) dX12_orders_53 (by decide) ?_
      exact (ih _ _ _).sub ⟨rfl, rfl, rfl, trivial⟩
def F_X12_orders (fu : Nat)  (x1 : Int32)   (M : xM) : Option (Int32 × xM) :=
  (if (P_X12_isRow x1 (xset M 0 0 (0 : Int32))) = 0 then
  some ((-1 : Int32), (xset M 0 0 (0 : Int32)))
  else
  (if (P_J6_bitCount_0f7a4 x1 (xset M 0 0 (0 : Int32))) ≤ (10 : Int32) then
  (F_X12_against fu x1 (xset M 0 0 (0 : Int32))).bind fun q1 =>
  (if q1.1 = 0 then
  F_X12_orders_b38 fu x1 fu (1 : Int32) (2 : Int32) q1.2
  else
  some ((0 : Int32), q1.2))
  else
  some ((-1 : Int32), (xset M 0 0 (0 : Int32)))))
set_option maxRecDepth 100000 in
set_option maxHeartbeats 4000000 in
theorem w_X12_orders {l : Launch} (fu : Nat) (x1 : Int32)     (M : xM)  : AW SM l RX12 cX12_orders 4 (some .int) 2 ki (F_X12_orders fu x1  M) 0 [some (xr 0), some (xi x1), none, none] [] M := by
  unfold F_X12_orders
  refine A_aload_n dX12_orders_0 rfl ?_
  refine A_iconst (v := (0 : Int32)) dX12_orders_1 oI_0 ?_
  refine A_puti lf_X12_180 rfl rfl dX12_orders_2 ?_
  refine A_aload_n dX12_orders_5 rfl ?_
  refine A_iload_n dX12_orders_6 rfl ?_
  refine A_callVp (a_X12_isRow (l := l) _ _ ) lc_X12_192 rfl rfl (by decide) (Nat.le_of_ble_eq_true rfl) rfl dX12_orders_7 ?_
  refine A_if_eq (tgt := 22) dX12_orders_10 (by decide) (fun _ => ?_) (fun _ => ?_)
  · refine A_iconst (v := (-1 : Int32)) dX12_orders_22 oI_m1 ?_
    exact A_iret rfl dX12_orders_23
  · refine A_iload_n dX12_orders_13 rfl ?_
    refine A_callSp (a_J6_bitCount_0f7a4 (S := SM) (l := l) _ _ ) lc_X12_183 rfl (by decide) (Nat.le_of_ble_eq_true rfl) rfl dX12_orders_14 ?_
    refine A_bipush (v := (10 : Int32)) dX12_orders_17 oB_10 ?_
    refine A_icmp_le (tgt := 24) dX12_orders_19 (by decide) (fun _ => ?_) (fun _ => ?_)
    · refine A_aload_n dX12_orders_24 rfl ?_
      refine A_iload_n dX12_orders_25 rfl ?_
      refine A_callVi (a_X12_against (l := l) fu _ _ ) lc_X12_207 rfl rfl (by decide) (Nat.le_of_ble_eq_true rfl) rfl dX12_orders_26 (fun q1 Mq1 hq1 => ?_)
      refine A_if_eq (tgt := 34) dX12_orders_29 (by decide) (fun _ => ?_) (fun _ => ?_)
      · refine A_iconst (v := (1 : Int32)) dX12_orders_34 oI_1 ?_
        refine A_istore_n dX12_orders_35 (Nat.le_of_ble_eq_true rfl) rfl ?_
        refine A_iconst (v := (2 : Int32)) dX12_orders_36 oI_2 ?_
        refine A_istore_n dX12_orders_37 (Nat.le_of_ble_eq_true rfl) rfl ?_
        exact (a_X12_orders_b38 (l := l) fu x1  fu _ _ _).sub ⟨rfl, rfl, rfl, trivial⟩
      · refine A_iconst (v := (0 : Int32)) dX12_orders_32 oI_0 ?_
        exact A_iret rfl dX12_orders_33
    · refine A_iconst (v := (-1 : Int32)) dX12_orders_22 oI_m1 ?_
      exact A_iret rfl dX12_orders_23
theorem a_X12_orders {l : Launch} (fu : Nat)  (x1 : Int32) (M : xM)  : AM SM l yX12_orders cX12_orders 4 (some .int) 2 ki [xr 0, xi x1] M (F_X12_orders fu x1  M) :=
  AM.of (L0 := [some (xr 0), some (xi x1), none, none]) (w_X12_orders (l := l) fu x1  M ) (by decide +kernel) rfl (Nat.le_of_ble_eq_true rfl) ⟨rfl, rfl, trivial⟩
def F_X12_bytesIn_b25 (fu : Nat)  (x0 : Int32) (k5 : Int32 → Int32 → xM → Option (Int32 × xM)) (x2 : Int32) (s0 : Int32) (s1 : Int32) (M : xM) : Option (Int32 × xM) :=
  k5 (s1 + s0) (x2 + (-8 : Int32)) M
set_option maxRecDepth 100000 in
set_option maxHeartbeats 4000000 in
theorem a_X12_bytesIn_b25 {l : Launch} (fu : Nat) (x0 : Int32)  {k5 : Int32 → Int32 → xM → Option (Int32 × xM)} (hk5 : ∀ (b0 : Int32) (b1 : Int32) (M : xM), AW SM l RX12 cX12_bytesIn 3 (some .int) 0 ki (k5 b0 b1 M) 5 [some (xi x0), some (xi b0), some (xi b1)] [] M) (x2 : Int32) (s0 : Int32) (s1 : Int32) (M : xM)  : AW SM l RX12 cX12_bytesIn 3 (some .int) 0 ki (F_X12_bytesIn_b25 fu x0 k5 x2 s0 s1 M) 25 [some (xi x0), none, some (xi x2)] [xi s0, xi s1] M := by
  unfold F_X12_bytesIn_b25
  refine A_iadd dX12_bytesIn_25 ?_
  refine A_istore_n dX12_bytesIn_26 (Nat.le_of_ble_eq_true rfl) rfl ?_
  refine A_iinc dX12_bytesIn_27 rfl oI_m8 (Nat.le_of_ble_eq_true rfl) rfl ?_
  refine A_goto (tgt := 5) dX12_bytesIn_30 (by decide) ?_
  exact (hk5 _ _ _).sub ⟨rfl, rfl, rfl, trivial⟩
def F_X12_bytesIn_b5 (fu : Nat)  (x0 : Int32)  : Nat → Int32 → Int32 → xM → Option (Int32 × xM)
  | 0, _, _, _ => none
  | n + 1, x1, x2, M =>
    (if x2 < 0 then
    some (x1, M)
    else
    (if ((x0 >>> (x2 &&& 31)) &&& (255 : Int32)) = 0 then
    F_X12_bytesIn_b25 fu x0 (F_X12_bytesIn_b5 fu x0 n) x2 (0 : Int32) x1 M
    else
    F_X12_bytesIn_b25 fu x0 (F_X12_bytesIn_b5 fu x0 n) x2 (1 : Int32) x1 M))
set_option maxRecDepth 100000 in
set_option maxHeartbeats 4000000 in
theorem a_X12_bytesIn_b5 {l : Launch} (fu : Nat) (x0 : Int32)    : ∀ (n : Nat) (x1 : Int32) (x2 : Int32) (M : xM), AW SM l RX12 cX12_bytesIn 3 (some .int) 0 ki (F_X12_bytesIn_b5 fu x0 n x1 x2 M) 5 [some (xi x0), some (xi x1), some (xi x2)] [] M := by
  intro n
  induction n with
  | zero =>
    intro x1 x2 M
    exact AW.none
  | succ n ih =>
    intro x1 x2 M
    rw [F_X12_bytesIn_b5]
    refine A_iload_n dX12_bytesIn_5 rfl ?_
    refine A_if_lt (tgt := 33) dX12_bytesIn_6 (by decide) (fun _ => ?_) (fun _ => ?_)
    · refine A_iload_n dX12_bytesIn_33 rfl ?_
      exact A_iret rfl dX12_bytesIn_34
    · refine A_iload_n dX12_bytesIn_9 rfl ?_
      refine A_iload_n dX12_bytesIn_10 rfl ?_
      refine A_iload_n dX12_bytesIn_11 rfl ?_
      refine A_ishr dX12_bytesIn_12 ?_
      refine A_sipush (v := (255 : Int32)) dX12_bytesIn_13 oS_255 ?_
      refine A_iand dX12_bytesIn_16 ?_
      refine A_if_eq (tgt := 24) dX12_bytesIn_17 (by decide) (fun _ => ?_) (fun _ => ?_)
      · refine A_iconst (v := (0 : Int32)) dX12_bytesIn_24 oI_0 ?_
        exact (a_X12_bytesIn_b25 (l := l) fu x0 ih _ _ _ _ ).sub ⟨rfl, rfl, trivial⟩
      · refine A_iconst (v := (1 : Int32)) dX12_bytesIn_20 oI_1 ?_
        refine A_goto (tgt := 25) dX12_bytesIn_21 (by decide) ?_
        exact (a_X12_bytesIn_b25 (l := l) fu x0 ih _ _ _ _ ).sub ⟨rfl, rfl, trivial⟩
def F_X12_bytesIn (fu : Nat)  (x0 : Int32)   (M : xM) : Option (Int32 × xM) :=
  F_X12_bytesIn_b5 fu x0 fu (0 : Int32) (24 : Int32) M
set_option maxRecDepth 100000 in
set_option maxHeartbeats 4000000 in
theorem w_X12_bytesIn {l : Launch} (fu : Nat) (x0 : Int32)     (M : xM)  : AW SM l RX12 cX12_bytesIn 3 (some .int) 0 ki (F_X12_bytesIn fu x0  M) 0 [some (xi x0), none, none] [] M := by
  unfold F_X12_bytesIn
  refine A_iconst (v := (0 : Int32)) dX12_bytesIn_0 oI_0 ?_
  refine A_istore_n dX12_bytesIn_1 (Nat.le_of_ble_eq_true rfl) rfl ?_
  refine A_bipush (v := (24 : Int32)) dX12_bytesIn_2 oB_24 ?_
  refine A_istore_n dX12_bytesIn_4 (Nat.le_of_ble_eq_true rfl) rfl ?_
  exact (a_X12_bytesIn_b5 (l := l) fu x0  fu _ _ _).sub ⟨rfl, rfl, rfl, trivial⟩
theorem a_X12_bytesIn {l : Launch} (fu : Nat)  (x0 : Int32) (M : xM)  : AM SM l yX12_bytesIn cX12_bytesIn 3 (some .int) 0 ki [xi x0] M (F_X12_bytesIn fu x0  M) :=
  AM.of (L0 := [some (xi x0), none, none]) (w_X12_bytesIn (l := l) fu x0  M ) (by decide +kernel) rfl (Nat.le_of_ble_eq_true rfl) ⟨rfl, trivial⟩
def F_X12_put_b43 (fu : Nat)  (x1 : Int32) (k3 : Int32 → xM → Option (xM)) (x2 : Int32) (M : xM) : Option (xM) :=
  k3 (x2 + (-8 : Int32)) M
set_option maxRecDepth 100000 in
set_option maxHeartbeats 4000000 in
theorem a_X12_put_b43 {l : Launch} (fu : Nat) (x1 : Int32)  {k3 : Int32 → xM → Option (xM)} (hk3 : ∀ (b0 : Int32) (M : xM), AW SM l RX12 cX12_put 3 none 0 kv (k3 b0 M) 3 [some (xr 0), some (xi x1), some (xi b0)] [] M) (x2 : Int32) (M : xM)  : AW SM l RX12 cX12_put 3 none 0 kv (F_X12_put_b43 fu x1 k3 x2 M) 43 [some (xr 0), some (xi x1), some (xi x2)] [] M := by
  unfold F_X12_put_b43
  refine A_iinc dX12_put_43 rfl oI_m8 (Nat.le_of_ble_eq_true rfl) rfl ?_
  refine A_goto (tgt := 3) dX12_put_46 (by decide) ?_
  exact (hk3 _ _).sub ⟨rfl, rfl, rfl, trivial⟩
def F_X12_put_b3 (fu : Nat)  (x1 : Int32)  : Nat → Int32 → xM → Option (xM)
  | 0, _, _ => none
  | n + 1, x2, M =>
    (if x2 < 0 then
    some M
    else
    (if ((x1 >>> (x2 &&& 31)) &&& (255 : Int32)) = 0 then
    F_X12_put_b43 fu x1 (F_X12_put_b3 fu x1 n) x2 M
    else
    (if (M 0 15) < 0 ∨ 120 ≤ (M 0 15).toNatClampNeg then none else
    F_X12_put_b43 fu x1 (F_X12_put_b3 fu x1 n) x2 (xset (xset M 7 (M 0 15).toNatClampNeg (vp_nar .byte ((x1 >>> (x2 &&& 31)).toInt8.toInt32))) 0 15 (((xset M 7 (M 0 15).toNatClampNeg (vp_nar .byte ((x1 >>> (x2 &&& 31)).toInt8.toInt32))) 0 15) + (1 : Int32))))))
set_option maxRecDepth 100000 in
set_option maxHeartbeats 4000000 in
theorem a_X12_put_b3 {l : Launch} (fu : Nat) (x1 : Int32)    : ∀ (n : Nat) (x2 : Int32) (M : xM), AW SM l RX12 cX12_put 3 none 0 kv (F_X12_put_b3 fu x1 n x2 M) 3 [some (xr 0), some (xi x1), some (xi x2)] [] M := by
  intro n
  induction n with
  | zero =>
    intro x2 M
    exact AW.none
  | succ n ih =>
    intro x2 M
    rw [F_X12_put_b3]
    refine A_iload_n dX12_put_3 rfl ?_
    refine A_if_lt (tgt := 49) dX12_put_4 (by decide) (fun _ => ?_) (fun _ => ?_)
    · exact A_vret rfl dX12_put_49
    · refine A_iload_n dX12_put_7 rfl ?_
      refine A_iload_n dX12_put_8 rfl ?_
      refine A_ishr dX12_put_9 ?_
      refine A_sipush (v := (255 : Int32)) dX12_put_10 oS_255 ?_
      refine A_iand dX12_put_13 ?_
      refine A_if_ne (tgt := 20) dX12_put_14 (by decide) (fun _ => ?_) (fun _ => ?_)
      · refine A_goto (tgt := 43) dX12_put_17 (by decide) ?_
        exact (a_X12_put_b43 (l := l) fu x1 ih _ _ ).sub ⟨rfl, rfl, rfl, trivial⟩
      · refine A_aload_n dX12_put_20 rfl ?_
        refine A_getr lf_X12_29 rfl rfl dX12_put_21 ?_
        refine A_aload_n dX12_put_24 rfl ?_
        refine A_geti lf_X12_229 rfl rfl dX12_put_25 ?_
        refine A_iload_n dX12_put_28 rfl ?_
        refine A_iload_n dX12_put_29 rfl ?_
        refine A_ishr dX12_put_30 ?_
        refine A_i2b dX12_put_31 ?_
        refine A_bast rfl dX12_put_32 (fun _ => ?_)
        refine A_aload_n dX12_put_33 rfl ?_
        refine A_dup dX12_put_34 rfl ?_
        refine A_geti lf_X12_229 rfl rfl dX12_put_35 ?_
        refine A_iconst (v := (1 : Int32)) dX12_put_38 oI_1 ?_
        refine A_iadd dX12_put_39 ?_
        refine A_puti lf_X12_229 rfl rfl dX12_put_40 ?_
        exact (a_X12_put_b43 (l := l) fu x1 ih _ _ ).sub ⟨rfl, rfl, rfl, trivial⟩
def F_X12_put (fu : Nat)  (x1 : Int32)   (M : xM) : Option (xM) :=
  F_X12_put_b3 fu x1 fu (24 : Int32) M
set_option maxRecDepth 100000 in
set_option maxHeartbeats 4000000 in
theorem w_X12_put {l : Launch} (fu : Nat) (x1 : Int32)     (M : xM)  : AW SM l RX12 cX12_put 3 none 0 kv (F_X12_put fu x1  M) 0 [some (xr 0), some (xi x1), none] [] M := by
  unfold F_X12_put
  refine A_bipush (v := (24 : Int32)) dX12_put_0 oB_24 ?_
  refine A_istore_n dX12_put_2 (Nat.le_of_ble_eq_true rfl) rfl ?_
  exact (a_X12_put_b3 (l := l) fu x1  fu _ _).sub ⟨rfl, rfl, rfl, trivial⟩
theorem a_X12_put {l : Launch} (fu : Nat)  (x1 : Int32) (M : xM)  : AM SM l yX12_put cX12_put 3 none 0 kv [xr 0, xi x1] M (F_X12_put fu x1  M) :=
  AM.of (L0 := [some (xr 0), some (xi x1), none]) (w_X12_put (l := l) fu x1  M ) (by decide +kernel) rfl (Nat.le_of_ble_eq_true rfl) ⟨rfl, rfl, trivial⟩
def F_X12_feed (fu : Nat)  (x1 : Int32) (x2 : Int32) (x3 : Int32) (x4 : Int32) (x5 : Int32)   (M : xM) : Option (Int32 × xM) :=
  (F_X12_bytesIn fu x1 (xset M 0 0 (0 : Int32))).bind fun q1 =>
  (F_X12_bytesIn fu x2 q1.2).bind fun q2 =>
  (F_X12_bytesIn fu x3 q2.2).bind fun q3 =>
  (F_X12_bytesIn fu x4 q3.2).bind fun q4 =>
  (F_X12_bytesIn fu x5 q4.2).bind fun q5 =>
  (if (((((((xset M 0 0 (0 : Int32)) 0 15) + q1.1) + q2.1) + q3.1) + q4.1) + q5.1) ≤ (120 : Int32) then
  (F_X12_put fu x1 q5.2).bind fun q6 =>
  (F_X12_put fu x2 q6).bind fun q7 =>
  (F_X12_put fu x3 q7).bind fun q8 =>
  (F_X12_put fu x4 q8).bind fun q9 =>
  (F_X12_put fu x5 q9).bind fun q10 =>
  some ((q10 0 15), q10)
  else
  some ((-1 : Int32), q5.2))
set_option maxRecDepth 100000 in
set_option maxHeartbeats 4000000 in
theorem w_X12_feed {l : Launch} (fu : Nat) (x1 : Int32) (x2 : Int32) (x3 : Int32) (x4 : Int32) (x5 : Int32)     (M : xM)  : AW SM l RX12 cX12_feed 6 (some .int) 1 ki (F_X12_feed fu x1 x2 x3 x4 x5  M) 0 [some (xr 0), some (xi x1), some (xi x2), some (xi x3), some (xi x4), some (xi x5)] [] M := by
  unfold F_X12_feed
  refine A_aload_n dX12_feed_0 rfl ?_
  refine A_iconst (v := (0 : Int32)) dX12_feed_1 oI_0 ?_
  refine A_puti lf_X12_180 rfl rfl dX12_feed_2 ?_
  refine A_aload_n dX12_feed_5 rfl ?_
  refine A_geti lf_X12_229 rfl rfl dX12_feed_6 ?_
  refine A_iload_n dX12_feed_9 rfl ?_
  refine A_callSi (a_X12_bytesIn (l := l) fu _ _ ) lc_X12_231 rfl (by decide) (Nat.le_of_ble_eq_true rfl) rfl dX12_feed_10 (fun q1 Mq1 hq1 => ?_)
  refine A_iadd dX12_feed_13 ?_
  refine A_iload_n dX12_feed_14 rfl ?_
  refine A_callSi (a_X12_bytesIn (l := l) fu _ _ ) lc_X12_231 rfl (by decide) (Nat.le_of_ble_eq_true rfl) rfl dX12_feed_15 (fun q2 Mq2 hq2 => ?_)
  refine A_iadd dX12_feed_18 ?_
  refine A_iload_n dX12_feed_19 rfl ?_
  refine A_callSi (a_X12_bytesIn (l := l) fu _ _ ) lc_X12_231 rfl (by decide) (Nat.le_of_ble_eq_true rfl) rfl dX12_feed_20 (fun q3 Mq3 hq3 => ?_)
  refine A_iadd dX12_feed_23 ?_
  refine A_iload dX12_feed_24 rfl ?_
  refine A_callSi (a_X12_bytesIn (l := l) fu _ _ ) lc_X12_231 rfl (by decide) (Nat.le_of_ble_eq_true rfl) rfl dX12_feed_26 (fun q4 Mq4 hq4 => ?_)
  refine A_iadd dX12_feed_29 ?_
  refine A_iload dX12_feed_30 rfl ?_
  refine A_callSi (a_X12_bytesIn (l := l) fu _ _ ) lc_X12_231 rfl (by decide) (Nat.le_of_ble_eq_true rfl) rfl dX12_feed_32 (fun q5 Mq5 hq5 => ?_)
  refine A_iadd dX12_feed_35 ?_
  refine A_bipush (v := (120 : Int32)) dX12_feed_36 oB_120 ?_
  refine A_icmp_le (tgt := 43) dX12_feed_38 (by decide) (fun _ => ?_) (fun _ => ?_)
  · refine A_aload_n dX12_feed_43 rfl ?_
    refine A_iload_n dX12_feed_44 rfl ?_
    refine A_callVv (a_X12_put (l := l) fu _ _ ) lc_X12_234 rfl rfl (by decide) (Nat.le_of_ble_eq_true rfl) rfl dX12_feed_45 (fun q6 hq6 => ?_)
    refine A_aload_n dX12_feed_48 rfl ?_
    refine A_iload_n dX12_feed_49 rfl ?_
    refine A_callVv (a_X12_put (l := l) fu _ _ ) lc_X12_234 rfl rfl (by decide) (Nat.le_of_ble_eq_true rfl) rfl dX12_feed_50 (fun q7 hq7 => ?_)
    refine A_aload_n dX12_feed_53 rfl ?_
    refine A_iload_n dX12_feed_54 rfl ?_
    refine A_callVv (a_X12_put (l := l) fu _ _ ) lc_X12_234 rfl rfl (by decide) (Nat.le_of_ble_eq_true rfl) rfl dX12_feed_55 (fun q8 hq8 => ?_)
    refine A_aload_n dX12_feed_58 rfl ?_
    refine A_iload dX12_feed_59 rfl ?_
    refine A_callVv (a_X12_put (l := l) fu _ _ ) lc_X12_234 rfl rfl (by decide) (Nat.le_of_ble_eq_true rfl) rfl dX12_feed_61 (fun q9 hq9 => ?_)
    refine A_aload_n dX12_feed_64 rfl ?_
    refine A_iload dX12_feed_65 rfl ?_
    refine A_callVv (a_X12_put (l := l) fu _ _ ) lc_X12_234 rfl rfl (by decide) (Nat.le_of_ble_eq_true rfl) rfl dX12_feed_67 (fun q10 hq10 => ?_)
    refine A_aload_n dX12_feed_70 rfl ?_
    refine A_geti lf_X12_229 rfl rfl dX12_feed_71 ?_
    exact A_iret rfl dX12_feed_74
  · refine A_iconst (v := (-1 : Int32)) dX12_feed_41 oI_m1 ?_
    exact A_iret rfl dX12_feed_42
theorem a_X12_feed {l : Launch} (fu : Nat)  (x1 : Int32) (x2 : Int32) (x3 : Int32) (x4 : Int32) (x5 : Int32) (M : xM)  : AM SM l yX12_feed cX12_feed 6 (some .int) 1 ki [xr 0, xi x1, xi x2, xi x3, xi x4, xi x5] M (F_X12_feed fu x1 x2 x3 x4 x5  M) :=
  AM.of (L0 := [some (xr 0), some (xi x1), some (xi x2), some (xi x3), some (xi x4), some (xi x5)]) (w_X12_feed (l := l) fu x1 x2 x3 x4 x5  M ) (by decide +kernel) rfl (Nat.le_of_ble_eq_true rfl) ⟨rfl, rfl, rfl, rfl, rfl, rfl, trivial⟩
def F_X12_end  (x1 : Int32)   (M : xM) : Option (Int32 × xM) :=
  (if x1 < 0 then
  some ((0 : Int32), (xset M 0 0 (0 : Int32)))
  else
  (if x1 ≤ ((xset M 0 0 (0 : Int32)) 0 15) then
  some ((1 : Int32), (xset (xset M 0 0 (0 : Int32)) 0 15 x1))
  else
  some ((0 : Int32), (xset M 0 0 (0 : Int32)))))
set_option maxRecDepth 100000 in
set_option maxHeartbeats 4000000 in
theorem w_X12_end {l : Launch} (x1 : Int32)     (M : xM)  : AW SM l RX12 cX12_end 2 (some .boolean) 0 ki (F_X12_end x1  M) 0 [some (xr 0), some (xi x1)] [] M := by
  unfold F_X12_end
  refine A_aload_n dX12_end_0 rfl ?_
  refine A_iconst (v := (0 : Int32)) dX12_end_1 oI_0 ?_
  refine A_puti lf_X12_180 rfl rfl dX12_end_2 ?_
  refine A_iload_n dX12_end_5 rfl ?_
  refine A_if_lt (tgt := 17) dX12_end_6 (by decide) (fun _ => ?_) (fun _ => ?_)
  · refine A_iconst (v := (0 : Int32)) dX12_end_17 oI_0 ?_
    exact A_zret' rfl (Or.inl rfl) dX12_end_18
  · refine A_iload_n dX12_end_9 rfl ?_
    refine A_aload_n dX12_end_10 rfl ?_
    refine A_geti lf_X12_229 rfl rfl dX12_end_11 ?_
    refine A_icmp_le (tgt := 19) dX12_end_14 (by decide) (fun _ => ?_) (fun _ => ?_)
    · refine A_aload_n dX12_end_19 rfl ?_
      refine A_iload_n dX12_end_20 rfl ?_
      refine A_puti lf_X12_229 rfl rfl dX12_end_21 ?_
      refine A_iconst (v := (1 : Int32)) dX12_end_24 oI_1 ?_
      exact A_zret' rfl (Or.inr rfl) dX12_end_25
    · refine A_iconst (v := (0 : Int32)) dX12_end_17 oI_0 ?_
      exact A_zret' rfl (Or.inl rfl) dX12_end_18
theorem a_X12_end {l : Launch}  (x1 : Int32) (M : xM)  : AM SM l yX12_end cX12_end 2 (some .boolean) 0 ki [xr 0, xi x1] M (F_X12_end  x1  M) :=
  AM.of (L0 := [some (xr 0), some (xi x1)]) (w_X12_end (l := l) x1  M ) (by decide +kernel) rfl (Nat.le_of_ble_eq_true rfl) ⟨rfl, rfl, trivial⟩
def F_X12_look_b43 (fu : Nat)     (M : xM) : Option (Int32 × xM) :=
  (if (M 0 19) ≤ (M 0 20) then
  some ((-1 : Int32), M)
  else
  (xlen SM 1 ((M 0 14).toNatClampNeg)).bind fun n1 => if ((M 0 18) + (M 0 20)) < 0 ∨ n1 ≤ ((M 0 18) + (M 0 20)).toNatClampNeg then none else
  some (((M ((M 0 14).toNatClampNeg) ((M 0 18) + (M 0 20)).toNatClampNeg) &&& (255 : Int32)), M))
set_option maxRecDepth 100000 in
set_option maxHeartbeats 4000000 in
theorem a_X12_look_b43 {l : Launch} (fu : Nat)      (M : xM)  : AW SM l RX12 cX12_look 1 (some .int) 0 ki (F_X12_look_b43 fu  M) 43 [some (xr 0)] [] M := by
  unfold F_X12_look_b43
  refine A_aload_n dX12_look_43 rfl ?_
  refine A_geti lf_X12_238 rfl rfl dX12_look_44 ?_
  refine A_aload_n dX12_look_47 rfl ?_
  refine A_geti lf_X12_241 rfl rfl dX12_look_48 ?_
  refine A_icmp_ge (tgt := 75) dX12_look_51 (by decide) (fun _ => ?_) (fun _ => ?_)
  · refine A_iconst (v := (-1 : Int32)) dX12_look_75 oI_m1 ?_
    exact A_iret rfl dX12_look_76
  · refine A_aload_n dX12_look_54 rfl ?_
    refine A_getw lf_X12_42 rfl rfl dX12_look_55 ?_
    refine A_aload_n dX12_look_58 rfl ?_
    refine A_geti lf_X12_244 rfl rfl dX12_look_59 ?_
    refine A_aload_n dX12_look_62 rfl ?_
    refine A_geti lf_X12_238 rfl rfl dX12_look_63 ?_
    refine A_iadd dX12_look_66 ?_
    refine A_xlen (fun n1 h2 => ?_)
    refine A_bald h2 dX12_look_67 (fun _ => ?_)
    refine A_sipush (v := (255 : Int32)) dX12_look_68 oS_255 ?_
    refine A_iand dX12_look_71 ?_
    refine A_goto (tgt := 76) dX12_look_72 (by decide) ?_
    exact A_iret rfl dX12_look_76
def F_X12_look_b0 (fu : Nat)    : Nat → xM → Option (Int32 × xM)
  | 0, _ => none
  | n + 1, M =>
    (if (M 0 19) ≤ (M 0 20) then
    F_X12_look_b43 fu  M
    else
    (xlen SM 1 ((M 0 14).toNatClampNeg)).bind fun n1 => if ((M 0 18) + (M 0 20)) < 0 ∨ n1 ≤ ((M 0 18) + (M 0 20)).toNatClampNeg then none else
    (if (M ((M 0 14).toNatClampNeg) ((M 0 18) + (M 0 20)).toNatClampNeg) = (32 : Int32) then
    F_X12_look_b0 fu n  (xset M 0 20 ((M 0 20) + (1 : Int32)))
    else
    F_X12_look_b43 fu  M))
set_option maxRecDepth 100000 in
set_option maxHeartbeats 4000000 in
theorem a_X12_look_b0 {l : Launch} (fu : Nat)     : ∀ (n : Nat)  (M : xM), AW SM l RX12 cX12_look 1 (some .int) 0 ki (F_X12_look_b0 fu n  M) 0 [some (xr 0)] [] M := by
  intro n
  induction n with
  | zero =>
    intro  M
    exact AW.none
  | succ n ih =>
    intro  M
    rw [F_X12_look_b0]
    refine A_aload_n dX12_look_0 rfl ?_
    refine A_geti lf_X12_238 rfl rfl dX12_look_1 ?_
    refine A_aload_n dX12_look_4 rfl ?_
    refine A_geti lf_X12_241 rfl rfl dX12_look_5 ?_
    refine A_icmp_ge (tgt := 43) dX12_look_8 (by decide) (fun _ => ?_) (fun _ => ?_)
    · exact (a_X12_look_b43 (l := l) fu   _ ).sub ⟨rfl, trivial⟩
    · refine A_aload_n dX12_look_11 rfl ?_
      refine A_getw lf_X12_42 rfl rfl dX12_look_12 ?_
      refine A_aload_n dX12_look_15 rfl ?_
      refine A_geti lf_X12_244 rfl rfl dX12_look_16 ?_
      refine A_aload_n dX12_look_19 rfl ?_
      refine A_geti lf_X12_238 rfl rfl dX12_look_20 ?_
      refine A_iadd dX12_look_23 ?_
      refine A_xlen (fun n1 h2 => ?_)
      refine A_bald h2 dX12_look_24 (fun _ => ?_)
      refine A_bipush (v := (32 : Int32)) dX12_look_25 oB_32 ?_
      refine A_icmp_ne (tgt := 43) dX12_look_27 (by decide) (fun _ => ?_) (fun _ => ?_)
      · refine A_aload_n dX12_look_30 rfl ?_
        refine A_dup dX12_look_31 rfl ?_
        refine A_geti lf_X12_238 rfl rfl dX12_look_32 ?_
        refine A_iconst (v := (1 : Int32)) dX12_look_35 oI_1 ?_
        refine A_iadd dX12_look_36 ?_
        refine A_puti lf_X12_238 rfl rfl dX12_look_37 ?_
        refine A_goto (tgt := 0) dX12_look_40 (by decide) ?_
        exact (ih  _).sub ⟨rfl, trivial⟩
      · exact (a_X12_look_b43 (l := l) fu   _ ).sub ⟨rfl, trivial⟩
def F_X12_look (fu : Nat)   (M : xM) : Option (Int32 × xM) := F_X12_look_b0 fu  fu  M
theorem a_X12_look {l : Launch} (fu : Nat)   (M : xM)  : AM SM l yX12_look cX12_look 1 (some .int) 0 ki [xr 0] M (F_X12_look fu  M) :=
  AM.of (L0 := [some (xr 0)]) (a_X12_look_b0 (l := l) fu fu  M) (by decide +kernel) rfl (Nat.le_of_ble_eq_true rfl) ⟨rfl, trivial⟩
def F_X12_fails     (M : xM) : Option (Int32 × xM) :=
  (if (M 0 21) = (-1 : Int32) then
  some ((0 : Int32), (xset M 0 21 (M 0 20)))
  else
  some ((0 : Int32), M))
set_option maxRecDepth 100000 in
set_option maxHeartbeats 4000000 in
theorem w_X12_fails {l : Launch}      (M : xM)  : AW SM l RX12 cX12_fails 1 (some .boolean) 0 ki (F_X12_fails   M) 0 [some (xr 0)] [] M := by
  unfold F_X12_fails
  refine A_aload_n dX12_fails_0 rfl ?_
  refine A_geti lf_X12_247 rfl rfl dX12_fails_1 ?_
  refine A_iconst (v := (-1 : Int32)) dX12_fails_4 oI_m1 ?_
  refine A_icmp_ne (tgt := 16) dX12_fails_5 (by decide) (fun _ => ?_) (fun _ => ?_)
  · refine A_aload_n dX12_fails_8 rfl ?_
    refine A_aload_n dX12_fails_9 rfl ?_
    refine A_geti lf_X12_238 rfl rfl dX12_fails_10 ?_
    refine A_puti lf_X12_247 rfl rfl dX12_fails_13 ?_
    refine A_iconst (v := (0 : Int32)) dX12_fails_16 oI_0 ?_
    exact A_zret' rfl (Or.inl rfl) dX12_fails_17
  · refine A_iconst (v := (0 : Int32)) dX12_fails_16 oI_0 ?_
    exact A_zret' rfl (Or.inl rfl) dX12_fails_17
theorem a_X12_fails {l : Launch}   (M : xM)  : AM SM l yX12_fails cX12_fails 1 (some .boolean) 0 ki [xr 0] M (F_X12_fails    M) :=
  AM.of (L0 := [some (xr 0)]) (w_X12_fails (l := l)   M ) (by decide +kernel) rfl (Nat.le_of_ble_eq_true rfl) ⟨rfl, trivial⟩
def F_X12_goesIn     (M : xM) : Option (Int32 × xM) :=
  (if (M 0 22) = (6 : Int32) then
  (F_X12_fails M).bind fun q1 =>
  (if q1.1 = 0 ∨ q1.1 = 1 then some (q1.1, q1.2) else none)
  else
  some ((1 : Int32), (xset (xset M 0 22 ((M 0 22) + (1 : Int32))) 0 20 (((xset M 0 22 ((M 0 22) + (1 : Int32))) 0 20) + (1 : Int32)))))
set_option maxRecDepth 100000 in
set_option maxHeartbeats 4000000 in
theorem w_X12_goesIn {l : Launch}      (M : xM)  : AW SM l RX12 cX12_goesIn 1 (some .boolean) 1 ki (F_X12_goesIn   M) 0 [some (xr 0)] [] M := by
  unfold F_X12_goesIn
  refine A_aload_n dX12_goesIn_0 rfl ?_
  refine A_geti lf_X12_250 rfl rfl dX12_goesIn_1 ?_
  refine A_bipush (v := (6 : Int32)) dX12_goesIn_4 oB_6 ?_
  refine A_icmp_ne (tgt := 14) dX12_goesIn_6 (by decide) (fun _ => ?_) (fun _ => ?_)
  · refine A_aload_n dX12_goesIn_9 rfl ?_
    refine A_callVi (a_X12_fails (l := l)  _ ) lc_X12_253 rfl rfl (by decide) (Nat.le_of_ble_eq_true rfl) rfl dX12_goesIn_10 (fun q1 Mq1 hq1 => ?_)
    exact A_zret rfl dX12_goesIn_13
  · refine A_aload_n dX12_goesIn_14 rfl ?_
    refine A_dup dX12_goesIn_15 rfl ?_
    refine A_geti lf_X12_250 rfl rfl dX12_goesIn_16 ?_
    refine A_iconst (v := (1 : Int32)) dX12_goesIn_19 oI_1 ?_
    refine A_iadd dX12_goesIn_20 ?_
    refine A_puti lf_X12_250 rfl rfl dX12_goesIn_21 ?_
    refine A_aload_n dX12_goesIn_24 rfl ?_
    refine A_dup dX12_goesIn_25 rfl ?_
    refine A_geti lf_X12_238 rfl rfl dX12_goesIn_26 ?_
    refine A_iconst (v := (1 : Int32)) dX12_goesIn_29 oI_1 ?_
    refine A_iadd dX12_goesIn_30 ?_
    refine A_puti lf_X12_238 rfl rfl dX12_goesIn_31 ?_
    refine A_iconst (v := (1 : Int32)) dX12_goesIn_34 oI_1 ?_
    exact A_zret' rfl (Or.inr rfl) dX12_goesIn_35
theorem a_X12_goesIn {l : Launch}   (M : xM)  : AM SM l yX12_goesIn cX12_goesIn 1 (some .boolean) 1 ki [xr 0] M (F_X12_goesIn    M) :=
  AM.of (L0 := [some (xr 0)]) (w_X12_goesIn (l := l)   M ) (by decide +kernel) rfl (Nat.le_of_ble_eq_true rfl) ⟨rfl, trivial⟩
def F_X12_takes_b16 (fu : Nat)  (x1 : Int32)   (M : xM) : Option (Int32 × xM) :=
  (F_X12_fails M).bind fun q1 =>
  (if q1.1 = 0 ∨ q1.1 = 1 then some (q1.1, q1.2) else none)
set_option maxRecDepth 100000 in
set_option maxHeartbeats 4000000 in
theorem a_X12_takes_b16 {l : Launch} (fu : Nat) (x1 : Int32)     (M : xM)  : AW SM l RX12 cX12_takes 2 (some .boolean) 1 ki (F_X12_takes_b16 fu x1  M) 16 [some (xr 0), none] [] M := by
  unfold F_X12_takes_b16
  refine A_aload_n dX12_takes_16 rfl ?_
  refine A_callVi (a_X12_fails (l := l)  _ ) lc_X12_253 rfl rfl (by decide) (Nat.le_of_ble_eq_true rfl) rfl dX12_takes_17 (fun q1 Mq1 hq1 => ?_)
  exact A_zret rfl dX12_takes_20
def F_X12_takes (fu : Nat)  (x1 : Int32)   (M : xM) : Option (Int32 × xM) :=
  (if (M 0 21) = (-1 : Int32) then
  (F_X12_look fu M).bind fun q1 =>
  (if q1.1 = x1 then
  some ((1 : Int32), (xset q1.2 0 20 ((q1.2 0 20) + (1 : Int32))))
  else
  F_X12_takes_b16 fu x1  q1.2)
  else
  F_X12_takes_b16 fu x1  M)
set_option maxRecDepth 100000 in
set_option maxHeartbeats 4000000 in
theorem w_X12_takes {l : Launch} (fu : Nat) (x1 : Int32)     (M : xM)  : AW SM l RX12 cX12_takes 2 (some .boolean) 1 ki (F_X12_takes fu x1  M) 0 [some (xr 0), some (xi x1)] [] M := by
  unfold F_X12_takes
  refine A_aload_n dX12_takes_0 rfl ?_
  refine A_geti lf_X12_247 rfl rfl dX12_takes_1 ?_
  refine A_iconst (v := (-1 : Int32)) dX12_takes_4 oI_m1 ?_
  refine A_icmp_ne (tgt := 16) dX12_takes_5 (by decide) (fun _ => ?_) (fun _ => ?_)
  · refine A_aload_n dX12_takes_8 rfl ?_
    refine A_callVi (a_X12_look (l := l) fu  _ ) lc_X12_257 rfl rfl (by decide) (Nat.le_of_ble_eq_true rfl) rfl dX12_takes_9 (fun q1 Mq1 hq1 => ?_)
    refine A_iload_n dX12_takes_12 rfl ?_
    refine A_icmp_eq (tgt := 21) dX12_takes_13 (by decide) (fun _ => ?_) (fun _ => ?_)
    · refine A_aload_n dX12_takes_21 rfl ?_
      refine A_dup dX12_takes_22 rfl ?_
      refine A_geti lf_X12_238 rfl rfl dX12_takes_23 ?_
      refine A_iconst (v := (1 : Int32)) dX12_takes_26 oI_1 ?_
      refine A_iadd dX12_takes_27 ?_
      refine A_puti lf_X12_238 rfl rfl dX12_takes_28 ?_
      refine A_iconst (v := (1 : Int32)) dX12_takes_31 oI_1 ?_
      exact A_zret' rfl (Or.inr rfl) dX12_takes_32
    · exact (a_X12_takes_b16 (l := l) fu x1   _ ).sub ⟨rfl, trivial⟩
  · exact (a_X12_takes_b16 (l := l) fu x1   _ ).sub ⟨rfl, trivial⟩
theorem a_X12_takes {l : Launch} (fu : Nat)  (x1 : Int32) (M : xM)  : AM SM l yX12_takes cX12_takes 2 (some .boolean) 1 ki [xr 0, xi x1] M (F_X12_takes fu x1  M) :=
  AM.of (L0 := [some (xr 0), some (xi x1)]) (w_X12_takes (l := l) fu x1  M ) (by decide +kernel) rfl (Nat.le_of_ble_eq_true rfl) ⟨rfl, rfl, trivial⟩
def F_X12_isDigit     (M : xM) : Option (Int32 × xM) :=
  (if (M 0 19) ≤ (M 0 20) then
  some ((0 : Int32), M)
  else
  (xlen SM 1 ((M 0 14).toNatClampNeg)).bind fun n1 => if ((M 0 18) + (M 0 20)) < 0 ∨ n1 ≤ ((M 0 18) + (M 0 20)).toNatClampNeg then none else
  (if (M ((M 0 14).toNatClampNeg) ((M 0 18) + (M 0 20)).toNatClampNeg) < (48 : Int32) then
  some ((0 : Int32), M)
  else
  (xlen SM 1 ((M 0 14).toNatClampNeg)).bind fun n3 => if ((M 0 18) + (M 0 20)) < 0 ∨ n3 ≤ ((M 0 18) + (M 0 20)).toNatClampNeg then none else
  (if (57 : Int32) < (M ((M 0 14).toNatClampNeg) ((M 0 18) + (M 0 20)).toNatClampNeg) then
  some ((0 : Int32), M)
  else
  some ((1 : Int32), M))))
set_option maxRecDepth 100000 in
set_option maxHeartbeats 4000000 in
theorem w_X12_isDigit {l : Launch}      (M : xM)  : AW SM l RX12 cX12_isDigit 1 (some .boolean) 0 ki (F_X12_isDigit   M) 0 [some (xr 0)] [] M := by
  unfold F_X12_isDigit
  refine A_aload_n dX12_isDigit_0 rfl ?_
  refine A_geti lf_X12_238 rfl rfl dX12_isDigit_1 ?_
  refine A_aload_n dX12_isDigit_4 rfl ?_
  refine A_geti lf_X12_241 rfl rfl dX12_isDigit_5 ?_
  refine A_icmp_ge (tgt := 53) dX12_isDigit_8 (by decide) (fun _ => ?_) (fun _ => ?_)
  · refine A_iconst (v := (0 : Int32)) dX12_isDigit_53 oI_0 ?_
    exact A_zret' rfl (Or.inl rfl) dX12_isDigit_54
  · refine A_aload_n dX12_isDigit_11 rfl ?_
    refine A_getw lf_X12_42 rfl rfl dX12_isDigit_12 ?_
    refine A_aload_n dX12_isDigit_15 rfl ?_
    refine A_geti lf_X12_244 rfl rfl dX12_isDigit_16 ?_
    refine A_aload_n dX12_isDigit_19 rfl ?_
    refine A_geti lf_X12_238 rfl rfl dX12_isDigit_20 ?_
    refine A_iadd dX12_isDigit_23 ?_
    refine A_xlen (fun n1 h2 => ?_)
    refine A_bald h2 dX12_isDigit_24 (fun _ => ?_)
    refine A_bipush (v := (48 : Int32)) dX12_isDigit_25 oB_48 ?_
    refine A_icmp_lt (tgt := 53) dX12_isDigit_27 (by decide) (fun _ => ?_) (fun _ => ?_)
    · refine A_iconst (v := (0 : Int32)) dX12_isDigit_53 oI_0 ?_
      exact A_zret' rfl (Or.inl rfl) dX12_isDigit_54
    · refine A_aload_n dX12_isDigit_30 rfl ?_
      refine A_getw lf_X12_42 rfl rfl dX12_isDigit_31 ?_
      refine A_aload_n dX12_isDigit_34 rfl ?_
      refine A_geti lf_X12_244 rfl rfl dX12_isDigit_35 ?_
      refine A_aload_n dX12_isDigit_38 rfl ?_
      refine A_geti lf_X12_238 rfl rfl dX12_isDigit_39 ?_
      refine A_iadd dX12_isDigit_42 ?_
      refine A_xlen (fun n3 h4 => ?_)
      refine A_bald h4 dX12_isDigit_43 (fun _ => ?_)
      refine A_bipush (v := (57 : Int32)) dX12_isDigit_44 oB_57 ?_
      refine A_icmp_gt (tgt := 53) dX12_isDigit_46 (by decide) (fun _ => ?_) (fun _ => ?_)
      · refine A_iconst (v := (0 : Int32)) dX12_isDigit_53 oI_0 ?_
        exact A_zret' rfl (Or.inl rfl) dX12_isDigit_54
      · refine A_iconst (v := (1 : Int32)) dX12_isDigit_49 oI_1 ?_
        refine A_goto (tgt := 54) dX12_isDigit_50 (by decide) ?_
        exact A_zret' rfl (Or.inr rfl) dX12_isDigit_54
theorem a_X12_isDigit {l : Launch}   (M : xM)  : AM SM l yX12_isDigit cX12_isDigit 1 (some .boolean) 0 ki [xr 0] M (F_X12_isDigit    M) :=
  AM.of (L0 := [some (xr 0)]) (w_X12_isDigit (l := l)   M ) (by decide +kernel) rfl (Nat.le_of_ble_eq_true rfl) ⟨rfl, trivial⟩
