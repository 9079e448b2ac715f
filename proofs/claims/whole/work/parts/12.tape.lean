theorem oB_120 : (Int8.ofInt (120)).toInt32 = (120 : Int32) := by decide +kernel
theorem oB_122 : (Int8.ofInt (122)).toInt32 = (122 : Int32) := by decide +kernel
theorem oB_24 : (Int8.ofInt (24)).toInt32 = (24 : Int32) := by decide +kernel
theorem oB_46 : (Int8.ofInt (46)).toInt32 = (46 : Int32) := by decide +kernel
theorem oB_97 : (Int8.ofInt (97)).toInt32 = (97 : Int32) := by decide +kernel
theorem oI_m8 : Int32.ofInt (-8) = (-8 : Int32) := by decide +kernel
theorem oS_255 : (Int16.ofInt (255)).toInt32 = (255 : Int32) := by decide +kernel
theorem lf_X9_13 : xfl RX9 13 8 1 (tyX9 1) false := ⟨_, _, _, _, xc_X9, by decide, rfl, rfl, rfl, lw_gm 211 (by decide +kernel) rfl⟩
theorem lf_X9_9 : xfl RX9 9 8 0 (tyX9 0) true := ⟨_, _, _, _, xc_X9, by decide, rfl, rfl, rfl, lw_gm 207 (by decide +kernel) rfl⟩
theorem lc_X9_17 : xlS RX9 17 yX1_put cX1_put 3 none 3 := ⟨⟨lw_gm 639 (by decide +kernel) rfl, lw_gm 106 (by decide +kernel) rfl, lw_gm 527 (by decide +kernel) rfl, ⟨by decide, by decide, by decide +kernel⟩, by decide⟩, lw_gm 526 (by decide +kernel) rfl⟩
theorem lc_X9_25 : xlS RX9 25 yX1_within cX1_within 3 (some .boolean) 3 := ⟨⟨lw_gm 1142 (by decide +kernel) rfl, lw_gm 106 (by decide +kernel) rfl, lw_gm 518 (by decide +kernel) rfl, ⟨by decide, by decide, by decide +kernel⟩, by decide⟩, lw_gm 517 (by decide +kernel) rfl⟩
theorem lc_X9_29 : xlS RX9 29 yX1_at cX1_at 2 (some .int) 2 := ⟨⟨lw_gm 732 (by decide +kernel) rfl, lw_gm 106 (by decide +kernel) rfl, lw_gm 560 (by decide +kernel) rfl, ⟨by decide, by decide, by decide +kernel⟩, by decide⟩, lw_gm 559 (by decide +kernel) rfl⟩
def F_X9_bytesIn_b22 (fu : Nat)  (x0 : Int32) (k5 : Int32 → Int32 → xM → Option (Int32 × xM)) (x1 : Int32) (x2 : Int32) (M : xM) : Option (Int32 × xM) :=
  k5 x1 (x2 + (-8 : Int32)) M
set_option maxRecDepth 100000 in
set_option maxHeartbeats 4000000 in
theorem a_X9_bytesIn_b22 {l : Launch} (fu : Nat) (x0 : Int32)  {k5 : Int32 → Int32 → xM → Option (Int32 × xM)} (hk5 : ∀ (b0 : Int32) (b1 : Int32) (M : xM), AW SC l RX9 cX9_bytesIn 3 (some .int) 0 ki (k5 b0 b1 M) 5 [some (xi x0), some (xi b0), some (xi b1)] [] M) (x1 : Int32) (x2 : Int32) (M : xM)  : AW SC l RX9 cX9_bytesIn 3 (some .int) 0 ki (F_X9_bytesIn_b22 fu x0 k5 x1 x2 M) 22 [some (xi x0), some (xi x1), some (xi x2)] [] M := by
  unfold F_X9_bytesIn_b22
  refine A_iinc dX9_bytesIn_22 rfl oI_m8 (Nat.le_of_ble_eq_true rfl) rfl ?_
  refine A_goto (tgt := 5) dX9_bytesIn_25 (by decide) ?_
  exact (hk5 _ _ _).sub ⟨rfl, rfl, rfl, trivial⟩
def F_X9_bytesIn_b5 (fu : Nat)  (x0 : Int32)  : Nat → Int32 → Int32 → xM → Option (Int32 × xM)
  | 0, _, _, _ => none
  | n + 1, x1, x2, M =>
    (if x2 < 0 then
    some (x1, M)
    else
    (if (((x0.toUInt32 >>> (x2.toUInt32 &&& Int32.toUInt32 31)).toInt32) &&& (255 : Int32)) = 0 then
    F_X9_bytesIn_b22 fu x0 (F_X9_bytesIn_b5 fu x0 n) x1 x2 M
    else
    F_X9_bytesIn_b22 fu x0 (F_X9_bytesIn_b5 fu x0 n) (x1 + (1 : Int32)) x2 M))
set_option maxRecDepth 100000 in
set_option maxHeartbeats 4000000 in
theorem a_X9_bytesIn_b5 {l : Launch} (fu : Nat) (x0 : Int32)    : ∀ (n : Nat) (x1 : Int32) (x2 : Int32) (M : xM), AW SC l RX9 cX9_bytesIn 3 (some .int) 0 ki (F_X9_bytesIn_b5 fu x0 n x1 x2 M) 5 [some (xi x0), some (xi x1), some (xi x2)] [] M := by
  intro n
  induction n with
  | zero =>
    intro x1 x2 M
    exact AW.none
  | succ n ih =>
    intro x1 x2 M
    rw [F_X9_bytesIn_b5]
    refine A_iload_n dX9_bytesIn_5 rfl ?_
    refine A_if_lt (tgt := 28) dX9_bytesIn_6 (by decide) (fun _ => ?_) (fun _ => ?_)
    · refine A_iload_n dX9_bytesIn_28 rfl ?_
      exact A_iret rfl dX9_bytesIn_29
    · refine A_iload_n dX9_bytesIn_9 rfl ?_
      refine A_iload_n dX9_bytesIn_10 rfl ?_
      refine A_iushr dX9_bytesIn_11 ?_
      refine A_sipush (v := (255 : Int32)) dX9_bytesIn_12 oS_255 ?_
      refine A_iand dX9_bytesIn_15 ?_
      refine A_if_eq (tgt := 22) dX9_bytesIn_16 (by decide) (fun _ => ?_) (fun _ => ?_)
      · exact (a_X9_bytesIn_b22 (l := l) fu x0 ih _ _ _ ).sub ⟨rfl, rfl, rfl, trivial⟩
      · refine A_iinc dX9_bytesIn_19 rfl oI_1 (Nat.le_of_ble_eq_true rfl) rfl ?_
        exact (a_X9_bytesIn_b22 (l := l) fu x0 ih _ _ _ ).sub ⟨rfl, rfl, rfl, trivial⟩
def F_X9_bytesIn (fu : Nat)  (x0 : Int32)   (M : xM) : Option (Int32 × xM) :=
  F_X9_bytesIn_b5 fu x0 fu (0 : Int32) (24 : Int32) M
set_option maxRecDepth 100000 in
set_option maxHeartbeats 4000000 in
theorem w_X9_bytesIn {l : Launch} (fu : Nat) (x0 : Int32)     (M : xM)  : AW SC l RX9 cX9_bytesIn 3 (some .int) 0 ki (F_X9_bytesIn fu x0  M) 0 [some (xi x0), none, none] [] M := by
  unfold F_X9_bytesIn
  refine A_iconst (v := (0 : Int32)) dX9_bytesIn_0 oI_0 ?_
  refine A_istore_n dX9_bytesIn_1 (Nat.le_of_ble_eq_true rfl) rfl ?_
  refine A_bipush (v := (24 : Int32)) dX9_bytesIn_2 oB_24 ?_
  refine A_istore_n dX9_bytesIn_4 (Nat.le_of_ble_eq_true rfl) rfl ?_
  exact (a_X9_bytesIn_b5 (l := l) fu x0  fu _ _ _).sub ⟨rfl, rfl, rfl, trivial⟩
theorem a_X9_bytesIn {l : Launch} (fu : Nat)  (x0 : Int32) (M : xM)  : AM SC l yX9_bytesIn cX9_bytesIn 3 (some .int) 0 ki [xi x0] M (F_X9_bytesIn fu x0  M) :=
  AM.of (L0 := [some (xi x0), none, none]) (w_X9_bytesIn (l := l) fu x0  M ) (by decide +kernel) rfl (Nat.le_of_ble_eq_true rfl) ⟨rfl, trivial⟩
def F_X9_append_b50 (fu : Nat)  (x1 : Int32) (k3 : Int32 → xM → Option (xM)) (x2 : Int32) (M : xM) : Option (xM) :=
  k3 (x2 + (-8 : Int32)) M
set_option maxRecDepth 100000 in
set_option maxHeartbeats 4000000 in
theorem a_X9_append_b50 {l : Launch} (fu : Nat) (x1 : Int32)  {k3 : Int32 → xM → Option (xM)} (hk3 : ∀ (b0 : Int32) (M : xM), AW SC l RX9 cX9_append 4 none 1 kv (k3 b0 M) 3 [some (xr 2), some (xi x1), some (xi b0), none] [] M) (x2 : Int32) (M : xM)  : AW SC l RX9 cX9_append 4 none 1 kv (F_X9_append_b50 fu x1 k3 x2 M) 50 [some (xr 2), some (xi x1), some (xi x2), none] [] M := by
  unfold F_X9_append_b50
  refine A_iinc dX9_append_50 rfl oI_m8 (Nat.le_of_ble_eq_true rfl) rfl ?_
  refine A_goto (tgt := 3) dX9_append_53 (by decide) ?_
  exact (hk3 _ _).sub ⟨rfl, rfl, rfl, trivial⟩
def F_X9_append_b3 (fu : Nat)  (x1 : Int32)  : Nat → Int32 → xM → Option (xM)
  | 0, _, _ => none
  | n + 1, x2, M =>
    (if x2 < 0 then
    some M
    else
    (if (((x1.toUInt32 >>> (x2.toUInt32 &&& Int32.toUInt32 31)).toInt32) &&& (255 : Int32)) = 0 then
    F_X9_append_b50 fu x1 (F_X9_append_b3 fu x1 n) x2 M
    else
    (if (120 : Int32) ≤ (M 2 1) then
    F_X9_append_b50 fu x1 (F_X9_append_b3 fu x1 n) x2 M
    else
    (F_X1_put 17 120 (M 2 1) (((x1.toUInt32 >>> (x2.toUInt32 &&& Int32.toUInt32 31)).toInt32) &&& (255 : Int32)) M).bind fun q1 =>
    F_X9_append_b50 fu x1 (F_X9_append_b3 fu x1 n) x2 (xset q1 2 1 ((q1 2 1) + (1 : Int32))))))
set_option maxRecDepth 100000 in
set_option maxHeartbeats 4000000 in
theorem a_X9_append_b3 {l : Launch} (fu : Nat) (x1 : Int32)    : ∀ (n : Nat) (x2 : Int32) (M : xM), AW SC l RX9 cX9_append 4 none 1 kv (F_X9_append_b3 fu x1 n x2 M) 3 [some (xr 2), some (xi x1), some (xi x2), none] [] M := by
  intro n
  induction n with
  | zero =>
    intro x2 M
    exact AW.none
  | succ n ih =>
    intro x2 M
    rw [F_X9_append_b3]
    refine A_iload_n dX9_append_3 rfl ?_
    refine A_if_lt (tgt := 56) dX9_append_4 (by decide) (fun _ => ?_) (fun _ => ?_)
    · exact A_vret rfl dX9_append_56
    · refine A_iload_n dX9_append_7 rfl ?_
      refine A_iload_n dX9_append_8 rfl ?_
      refine A_iushr dX9_append_9 ?_
      refine A_sipush (v := (255 : Int32)) dX9_append_10 oS_255 ?_
      refine A_iand dX9_append_13 ?_
      refine A_istore_n dX9_append_14 (Nat.le_of_ble_eq_true rfl) rfl ?_
      refine A_iload_n dX9_append_15 rfl ?_
      refine A_if_eq (tgt := 50) dX9_append_16 (by decide) (fun _ => ?_) (fun _ => ?_)
      · exact (a_X9_append_b50 (l := l) fu x1 ih _ _ ).sub ⟨rfl, rfl, rfl, trivial⟩
      · refine A_aload_n dX9_append_19 rfl ?_
        refine A_geti lf_X9_13 rfl rfl dX9_append_20 ?_
        refine A_bipush (v := (120 : Int32)) dX9_append_23 oB_120 ?_
        refine A_icmp_ge (tgt := 50) dX9_append_25 (by decide) (fun _ => ?_) (fun _ => ?_)
        · exact (a_X9_append_b50 (l := l) fu x1 ih _ _ ).sub ⟨rfl, rfl, rfl, trivial⟩
        · refine A_aload_n dX9_append_28 rfl ?_
          refine A_getr lf_X9_9 rfl rfl dX9_append_29 ?_
          refine A_aload_n dX9_append_32 rfl ?_
          refine A_geti lf_X9_13 rfl rfl dX9_append_33 ?_
          refine A_iload_n dX9_append_36 rfl ?_
          refine A_callSv (a_X1_put (S := SC) (l := l) _ _ _ _ _ rfl) lc_X9_17 rfl (by decide) (Nat.le_of_ble_eq_true rfl) rfl dX9_append_37 (fun q1 hq1 => ?_)
          refine A_aload_n dX9_append_40 rfl ?_
          refine A_dup dX9_append_41 rfl ?_
          refine A_geti lf_X9_13 rfl rfl dX9_append_42 ?_
          refine A_iconst (v := (1 : Int32)) dX9_append_45 oI_1 ?_
          refine A_iadd dX9_append_46 ?_
          refine A_puti lf_X9_13 rfl rfl dX9_append_47 ?_
          exact (a_X9_append_b50 (l := l) fu x1 ih _ _ ).sub ⟨rfl, rfl, rfl, trivial⟩
def F_X9_append (fu : Nat)  (x1 : Int32)   (M : xM) : Option (xM) :=
  F_X9_append_b3 fu x1 fu (24 : Int32) M
set_option maxRecDepth 100000 in
set_option maxHeartbeats 4000000 in
theorem w_X9_append {l : Launch} (fu : Nat) (x1 : Int32)     (M : xM)  : AW SC l RX9 cX9_append 4 none 1 kv (F_X9_append fu x1  M) 0 [some (xr 2), some (xi x1), none, none] [] M := by
  unfold F_X9_append
  refine A_bipush (v := (24 : Int32)) dX9_append_0 oB_24 ?_
  refine A_istore_n dX9_append_2 (Nat.le_of_ble_eq_true rfl) rfl ?_
  exact (a_X9_append_b3 (l := l) fu x1  fu _ _).sub ⟨rfl, rfl, rfl, trivial⟩
theorem a_X9_append {l : Launch} (fu : Nat)  (x1 : Int32) (M : xM)  : AM SC l yX9_append cX9_append 4 none 1 kv [xr 2, xi x1] M (F_X9_append fu x1  M) :=
  AM.of (L0 := [some (xr 2), some (xi x1), none, none]) (w_X9_append (l := l) fu x1  M ) (by decide +kernel) rfl (Nat.le_of_ble_eq_true rfl) ⟨rfl, rfl, trivial⟩
def F_X9_isWord_b69 (fu : Nat)  (x1 : Int32) (k17 : Int32 → xM → Option (Int32 × xM)) (x2 : Int32) (M : xM) : Option (Int32 × xM) :=
  k17 (x2 + (1 : Int32)) M
set_option maxRecDepth 100000 in
set_option maxHeartbeats 4000000 in
theorem a_X9_isWord_b69 {l : Launch} (fu : Nat) (x1 : Int32)  {k17 : Int32 → xM → Option (Int32 × xM)} (hk17 : ∀ (b0 : Int32) (M : xM), AW SC l RX9 cX9_isWord 5 (some .boolean) 1 ki (k17 b0 M) 17 [some (xr 2), some (xi x1), some (xi b0), none, none] [] M) (x2 : Int32) (M : xM)  : AW SC l RX9 cX9_isWord 5 (some .boolean) 1 ki (F_X9_isWord_b69 fu x1 k17 x2 M) 69 [some (xr 2), some (xi x1), some (xi x2), none, none] [] M := by
  unfold F_X9_isWord_b69
  refine A_iinc dX9_isWord_69 rfl oI_1 (Nat.le_of_ble_eq_true rfl) rfl ?_
  refine A_goto (tgt := 17) dX9_isWord_72 (by decide) ?_
  exact (hk17 _ _).sub ⟨rfl, rfl, rfl, trivial⟩
def F_X9_isWord_b49 (fu : Nat)  (x1 : Int32) (k17 : Int32 → xM → Option (Int32 × xM)) (x2 : Int32) (x3 : Int32) (s0 : Int32) (M : xM) : Option (Int32 × xM) :=
  (if s0 = 0 then
  (if (P_X1_within x3 (97 : Int32) (122 : Int32) M) = 0 then
  some ((0 : Int32), M)
  else
  F_X9_isWord_b69 fu x1 k17 x2 M)
  else
  F_X9_isWord_b69 fu x1 k17 x2 M)
set_option maxRecDepth 100000 in
set_option maxHeartbeats 4000000 in
theorem a_X9_isWord_b49 {l : Launch} (fu : Nat) (x1 : Int32)  {k17 : Int32 → xM → Option (Int32 × xM)} (hk17 : ∀ (b0 : Int32) (M : xM), AW SC l RX9 cX9_isWord 5 (some .boolean) 1 ki (k17 b0 M) 17 [some (xr 2), some (xi x1), some (xi b0), none, none] [] M) (x2 : Int32) (x3 : Int32) (s0 : Int32) (M : xM)  : AW SC l RX9 cX9_isWord 5 (some .boolean) 1 ki (F_X9_isWord_b49 fu x1 k17 x2 x3 s0 M) 49 [some (xr 2), some (xi x1), some (xi x2), some (xi x3), none] [xi s0] M := by
  unfold F_X9_isWord_b49
  refine A_istore dX9_isWord_49 (Nat.le_of_ble_eq_true rfl) rfl ?_
  refine A_iload dX9_isWord_51 rfl ?_
  refine A_if_ne (tgt := 69) dX9_isWord_53 (by decide) (fun _ => ?_) (fun _ => ?_)
  · refine A_iload_n dX9_isWord_56 rfl ?_
    refine A_bipush (v := (97 : Int32)) dX9_isWord_57 oB_97 ?_
    refine A_bipush (v := (122 : Int32)) dX9_isWord_59 oB_122 ?_
    refine A_callSp (a_X1_within (S := SC) (l := l) _ _ _ _ ) lc_X9_25 rfl (by decide) (Nat.le_of_ble_eq_true rfl) rfl dX9_isWord_61 ?_
    refine A_if_ne (tgt := 69) dX9_isWord_64 (by decide) (fun _ => ?_) (fun _ => ?_)
    · refine A_iconst (v := (0 : Int32)) dX9_isWord_67 oI_0 ?_
      exact A_zret' rfl (Or.inl rfl) dX9_isWord_68
    · exact (a_X9_isWord_b69 (l := l) fu x1 hk17 _ _ ).sub ⟨rfl, rfl, rfl, trivial⟩
  · exact (a_X9_isWord_b69 (l := l) fu x1 hk17 _ _ ).sub ⟨rfl, rfl, rfl, trivial⟩
def F_X9_isWord_b48 (fu : Nat)  (x1 : Int32) (k17 : Int32 → xM → Option (Int32 × xM)) (x2 : Int32) (x3 : Int32) (M : xM) : Option (Int32 × xM) :=
  F_X9_isWord_b49 fu x1 k17 x2 x3 (0 : Int32) M
set_option maxRecDepth 100000 in
set_option maxHeartbeats 4000000 in
theorem a_X9_isWord_b48 {l : Launch} (fu : Nat) (x1 : Int32)  {k17 : Int32 → xM → Option (Int32 × xM)} (hk17 : ∀ (b0 : Int32) (M : xM), AW SC l RX9 cX9_isWord 5 (some .boolean) 1 ki (k17 b0 M) 17 [some (xr 2), some (xi x1), some (xi b0), none, none] [] M) (x2 : Int32) (x3 : Int32) (M : xM)  : AW SC l RX9 cX9_isWord 5 (some .boolean) 1 ki (F_X9_isWord_b48 fu x1 k17 x2 x3 M) 48 [some (xr 2), some (xi x1), some (xi x2), some (xi x3), none] [] M := by
  unfold F_X9_isWord_b48
  refine A_iconst (v := (0 : Int32)) dX9_isWord_48 oI_0 ?_
  exact (a_X9_isWord_b49 (l := l) fu x1 hk17 _ _ _ _ ).sub ⟨rfl, rfl, rfl, rfl, trivial⟩
def F_X9_isWord_b17 (fu : Nat)  (x1 : Int32)  : Nat → Int32 → xM → Option (Int32 × xM)
  | 0, _, _ => none
  | n + 1, x2, M =>
    (if (M 2 1) ≤ x2 then
    some ((1 : Int32), M)
    else
    (if x1 = 0 then
    F_X9_isWord_b48 fu x1 (F_X9_isWord_b17 fu x1 n) x2 (P_X1_at 17 120 x2 M) M
    else
    (if (P_X1_at 17 120 x2 M) = (46 : Int32) then
    F_X9_isWord_b49 fu x1 (F_X9_isWord_b17 fu x1 n) x2 (P_X1_at 17 120 x2 M) (1 : Int32) M
    else
    F_X9_isWord_b48 fu x1 (F_X9_isWord_b17 fu x1 n) x2 (P_X1_at 17 120 x2 M) M)))
set_option maxRecDepth 100000 in
set_option maxHeartbeats 4000000 in
theorem a_X9_isWord_b17 {l : Launch} (fu : Nat) (x1 : Int32)    : ∀ (n : Nat) (x2 : Int32) (M : xM), AW SC l RX9 cX9_isWord 5 (some .boolean) 1 ki (F_X9_isWord_b17 fu x1 n x2 M) 17 [some (xr 2), some (xi x1), some (xi x2), none, none] [] M := by
  intro n
  induction n with
  | zero =>
    intro x2 M
    exact AW.none
  | succ n ih =>
    intro x2 M
    rw [F_X9_isWord_b17]
    refine A_iload_n dX9_isWord_17 rfl ?_
    refine A_aload_n dX9_isWord_18 rfl ?_
    refine A_geti lf_X9_13 rfl rfl dX9_isWord_19 ?_
    refine A_icmp_ge (tgt := 75) dX9_isWord_22 (by decide) (fun _ => ?_) (fun _ => ?_)
    · refine A_iconst (v := (1 : Int32)) dX9_isWord_75 oI_1 ?_
      exact A_zret' rfl (Or.inr rfl) dX9_isWord_76
    · refine A_aload_n dX9_isWord_25 rfl ?_
      refine A_getr lf_X9_9 rfl rfl dX9_isWord_26 ?_
      refine A_iload_n dX9_isWord_29 rfl ?_
      refine A_callSp (a_X1_at (S := SC) (l := l) _ _ _ _ rfl) lc_X9_29 rfl (by decide) (Nat.le_of_ble_eq_true rfl) rfl dX9_isWord_30 ?_
      refine A_istore_n dX9_isWord_33 (Nat.le_of_ble_eq_true rfl) rfl ?_
      refine A_iload_n dX9_isWord_34 rfl ?_
      refine A_if_eq (tgt := 48) dX9_isWord_35 (by decide) (fun _ => ?_) (fun _ => ?_)
      · exact (a_X9_isWord_b48 (l := l) fu x1 ih _ _ _ ).sub ⟨rfl, rfl, rfl, rfl, trivial⟩
      · refine A_iload_n dX9_isWord_38 rfl ?_
        refine A_bipush (v := (46 : Int32)) dX9_isWord_39 oB_46 ?_
        refine A_icmp_ne (tgt := 48) dX9_isWord_41 (by decide) (fun _ => ?_) (fun _ => ?_)
        · refine A_iconst (v := (1 : Int32)) dX9_isWord_44 oI_1 ?_
          refine A_goto (tgt := 49) dX9_isWord_45 (by decide) ?_
          exact (a_X9_isWord_b49 (l := l) fu x1 ih _ _ _ _ ).sub ⟨rfl, rfl, rfl, rfl, trivial⟩
        · exact (a_X9_isWord_b48 (l := l) fu x1 ih _ _ _ ).sub ⟨rfl, rfl, rfl, rfl, trivial⟩
def F_X9_isWord (fu : Nat)  (x1 : Int32)   (M : xM) : Option (Int32 × xM) :=
  (if (P_X1_within (M 2 1) (1 : Int32) (8 : Int32) M) = 0 then
  some ((0 : Int32), M)
  else
  F_X9_isWord_b17 fu x1 fu (0 : Int32) M)
set_option maxRecDepth 100000 in
set_option maxHeartbeats 4000000 in
theorem w_X9_isWord {l : Launch} (fu : Nat) (x1 : Int32)     (M : xM)  : AW SC l RX9 cX9_isWord 5 (some .boolean) 1 ki (F_X9_isWord fu x1  M) 0 [some (xr 2), some (xi x1), none, none, none] [] M := by
  unfold F_X9_isWord
  refine A_aload_n dX9_isWord_0 rfl ?_
  refine A_geti lf_X9_13 rfl rfl dX9_isWord_1 ?_
  refine A_iconst (v := (1 : Int32)) dX9_isWord_4 oI_1 ?_
  refine A_bipush (v := (8 : Int32)) dX9_isWord_5 oB_8 ?_
  refine A_callSp (a_X1_within (S := SC) (l := l) _ _ _ _ ) lc_X9_25 rfl (by decide) (Nat.le_of_ble_eq_true rfl) rfl dX9_isWord_7 ?_
  refine A_if_ne (tgt := 15) dX9_isWord_10 (by decide) (fun _ => ?_) (fun _ => ?_)
  · refine A_iconst (v := (0 : Int32)) dX9_isWord_13 oI_0 ?_
    exact A_zret' rfl (Or.inl rfl) dX9_isWord_14
  · refine A_iconst (v := (0 : Int32)) dX9_isWord_15 oI_0 ?_
    refine A_istore_n dX9_isWord_16 (Nat.le_of_ble_eq_true rfl) rfl ?_
    exact (a_X9_isWord_b17 (l := l) fu x1  fu _ _).sub ⟨rfl, rfl, rfl, trivial⟩
theorem a_X9_isWord {l : Launch} (fu : Nat)  (x1 : Int32) (M : xM)  : AM SC l yX9_isWord cX9_isWord 5 (some .boolean) 1 ki [xr 2, xi x1] M (F_X9_isWord fu x1  M) :=
  AM.of (L0 := [some (xr 2), some (xi x1), none, none, none]) (w_X9_isWord (l := l) fu x1  M ) (by decide +kernel) rfl (Nat.le_of_ble_eq_true rfl) ⟨rfl, rfl, trivial⟩
def F_X9_copyTo_b2 (fu : Nat)  (r1 n1 : Nat) (x2 : Int32)  : Nat → Int32 → xM → Option (xM)
  | 0, _, _ => none
  | n + 1, x3, M =>
    (if (M 2 1) ≤ x3 then
    some M
    else
    (F_X1_put r1 n1 (x2 + x3) (P_X1_at 17 120 x3 M) M).bind fun q1 =>
    F_X9_copyTo_b2 fu r1 n1 x2 n (x3 + (1 : Int32)) q1)
set_option maxRecDepth 100000 in
set_option maxHeartbeats 4000000 in
theorem a_X9_copyTo_b2 {l : Launch} (fu : Nat) (r1 n1 : Nat) (x2 : Int32) (h1 : SC[r1]? = some (.inl (0, n1)))   : ∀ (n : Nat) (x3 : Int32) (M : xM), AW SC l RX9 cX9_copyTo 4 none 1 kv (F_X9_copyTo_b2 fu r1 n1 x2 n x3 M) 2 [some (xr 2), some (xr r1), some (xi x2), some (xi x3)] [] M := by
  intro n
  induction n with
  | zero =>
    intro x3 M
    exact AW.none
  | succ n ih =>
    intro x3 M
    rw [F_X9_copyTo_b2]
    refine A_iload_n dX9_copyTo_2 rfl ?_
    refine A_aload_n dX9_copyTo_3 rfl ?_
    refine A_geti lf_X9_13 rfl rfl dX9_copyTo_4 ?_
    refine A_icmp_ge (tgt := 31) dX9_copyTo_7 (by decide) (fun _ => ?_) (fun _ => ?_)
    · exact A_vret rfl dX9_copyTo_31
    · refine A_aload_n dX9_copyTo_10 rfl ?_
      refine A_iload_n dX9_copyTo_11 rfl ?_
      refine A_iload_n dX9_copyTo_12 rfl ?_
      refine A_iadd dX9_copyTo_13 ?_
      refine A_aload_n dX9_copyTo_14 rfl ?_
      refine A_getr lf_X9_9 rfl rfl dX9_copyTo_15 ?_
      refine A_iload_n dX9_copyTo_18 rfl ?_
      refine A_callSp (a_X1_at (S := SC) (l := l) _ _ _ _ rfl) lc_X9_29 rfl (by decide) (Nat.le_of_ble_eq_true rfl) rfl dX9_copyTo_19 ?_
      refine A_callSv (a_X1_put (S := SC) (l := l) _ _ _ _ _ h1) lc_X9_17 rfl (by decide) (Nat.le_of_ble_eq_true rfl) rfl dX9_copyTo_22 (fun q1 hq1 => ?_)
      refine A_iinc dX9_copyTo_25 rfl oI_1 (Nat.le_of_ble_eq_true rfl) rfl ?_
      refine A_goto (tgt := 2) dX9_copyTo_28 (by decide) ?_
      exact (ih _ _).sub ⟨rfl, rfl, rfl, rfl, trivial⟩
def F_X9_copyTo (fu : Nat)  (r1 n1 : Nat) (x2 : Int32)   (M : xM) : Option (xM) :=
  F_X9_copyTo_b2 fu r1 n1 x2 fu (0 : Int32) M
set_option maxRecDepth 100000 in
set_option maxHeartbeats 4000000 in
theorem w_X9_copyTo {l : Launch} (fu : Nat) (r1 n1 : Nat) (x2 : Int32) (h1 : SC[r1]? = some (.inl (0, n1)))    (M : xM)  : AW SC l RX9 cX9_copyTo 4 none 1 kv (F_X9_copyTo fu r1 n1 x2  M) 0 [some (xr 2), some (xr r1), some (xi x2), none] [] M := by
  unfold F_X9_copyTo
  refine A_iconst (v := (0 : Int32)) dX9_copyTo_0 oI_0 ?_
  refine A_istore_n dX9_copyTo_1 (Nat.le_of_ble_eq_true rfl) rfl ?_
  exact (a_X9_copyTo_b2 (l := l) fu r1 n1 x2 h1  fu _ _).sub ⟨rfl, rfl, rfl, rfl, trivial⟩
theorem a_X9_copyTo {l : Launch} (fu : Nat)  (r1 n1 : Nat) (x2 : Int32) (M : xM) (h1 : SC[r1]? = some (.inl (0, n1))) : AM SC l yX9_copyTo cX9_copyTo 4 none 1 kv [xr 2, xr r1, xi x2] M (F_X9_copyTo fu r1 n1 x2  M) :=
  AM.of (L0 := [some (xr 2), some (xr r1), some (xi x2), none]) (w_X9_copyTo (l := l) fu r1 n1 x2 h1  M ) (by decide +kernel) rfl (Nat.le_of_ble_eq_true rfl) ⟨rfl, rfl, rfl, trivial⟩
