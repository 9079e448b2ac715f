theorem lk_X12_260 : Jvm.Cond.constantLong RX12 260 (-1000000) ∈ lw_g := lw_gm 1815 (by decide +kernel) rfl
theorem lk_X12_262 : Jvm.Cond.constantLong RX12 262 (1000000) ∈ lw_g := lw_gm 1816 (by decide +kernel) rfl
theorem lf_X12_311 : xfl RX12 311 11 27 (tyX12 27) false := ⟨_, _, _, _, xc_X12, by decide, rfl, rfl, rfl, lw_gm 1440 (by decide +kernel) rfl⟩
theorem lf_X12_315 : xfl RX12 315 11 23 (tyX12 23) false := ⟨_, _, _, _, xc_X12, by decide, rfl, rfl, rfl, lw_gm 1436 (by decide +kernel) rfl⟩
theorem lf_X12_318 : xfl RX12 318 11 24 (tyX12 24) false := ⟨_, _, _, _, xc_X12, by decide, rfl, rfl, rfl, lw_gm 1437 (by decide +kernel) rfl⟩
theorem lf_X12_328 : xfl RX12 328 11 16 (tyX12 16) false := ⟨_, _, _, _, xc_X12, by decide, rfl, rfl, rfl, lw_gm 1429 (by decide +kernel) rfl⟩
theorem lf_X12_33 : xfl RX12 33 11 11 (tyX12 11) true := ⟨_, _, _, _, xc_X12, by decide, rfl, rfl, rfl, lw_gm 1424 (by decide +kernel) rfl⟩
theorem lf_X12_331 : xfl RX12 331 11 32 (tyX12 32) false := ⟨_, _, _, _, xc_X12, by decide, rfl, rfl, rfl, lw_gm 1445 (by decide +kernel) rfl⟩
theorem lf_X12_36 : xfl RX12 36 11 12 (tyX12 12) true := ⟨_, _, _, _, xc_X12, by decide, rfl, rfl, rfl, lw_gm 1425 (by decide +kernel) rfl⟩
theorem lf_X12_39 : xfl RX12 39 11 13 (tyX12 13) true := ⟨_, _, _, _, xc_X12, by decide, rfl, rfl, rfl, lw_gm 1426 (by decide +kernel) rfl⟩
theorem lf_X12_45 : xfl RX12 45 11 17 (tyX12 17) false := ⟨_, _, _, _, xc_X12, by decide, rfl, rfl, rfl, lw_gm 1430 (by decide +kernel) rfl⟩
theorem lf_X12_60 : xfl RX12 60 11 28 (tyX12 28) true := ⟨_, _, _, _, xc_X12, by decide, rfl, rfl, rfl, lw_gm 1441 (by decide +kernel) rfl⟩
theorem lc_X12_264 : xlS RX12 264 Lib.MathLoose.min_long.x Lib.MathLoose.min_long.code 4 (some .long) 2 := ⟨⟨lw_gm 1817 (by decide +kernel) rfl, lw_gm 107 (by decide +kernel) rfl, lw_gm 704 (by decide +kernel) rfl, ⟨by decide, by decide, by decide +kernel⟩, by decide⟩, lw_gm 703 (by decide +kernel) rfl⟩
theorem lc_X12_267 : xlS RX12 267 Lib.MathLoose.max_long.x Lib.MathLoose.max_long.code 4 (some .long) 2 := ⟨⟨lw_gm 1818 (by decide +kernel) rfl, lw_gm 107 (by decide +kernel) rfl, lw_gm 707 (by decide +kernel) rfl, ⟨by decide, by decide, by decide +kernel⟩, by decide⟩, lw_gm 706 (by decide +kernel) rfl⟩
theorem lc_X12_269 : xlS RX12 269 yX12_isAmong cX12_isAmong 3 (some .boolean) 2 := ⟨⟨lw_gm 1721 (by decide +kernel) rfl, lw_gm 117 (by decide +kernel) rfl, lw_gm 1723 (by decide +kernel) rfl, ⟨by decide, by decide, by decide +kernel⟩, by decide⟩, lw_gm 1722 (by decide +kernel) rfl⟩
theorem lc_X12_273 : xlV RX12 273 yX12_goesIn cX12_goesIn 1 (some .boolean) 0 11 := ⟨⟨lw_gm 1804 (by decide +kernel) rfl, lw_gm 117 (by decide +kernel) rfl, lw_gm 1807 (by decide +kernel) rfl, ⟨by decide, by decide, by decide +kernel⟩, by decide⟩, lw_gm 1806 (by decide +kernel) rfl, lw_gm 55 (by decide +kernel) rfl, _, _, rfl⟩
theorem lc_X12_276 : xlV RX12 276 yX12_sum cX12_sum 5 (some .int) 0 11 := ⟨⟨lw_gm 1792 (by decide +kernel) rfl, lw_gm 117 (by decide +kernel) rfl, lw_gm 1795 (by decide +kernel) rfl, ⟨by decide, by decide, by decide +kernel⟩, by decide⟩, lw_gm 1794 (by decide +kernel) rfl, lw_gm 52 (by decide +kernel) rfl, _, _, rfl⟩
theorem lc_X12_279 : xlV RX12 279 yX12_takes cX12_takes 2 (some .boolean) 1 11 := ⟨⟨lw_gm 1776 (by decide +kernel) rfl, lw_gm 117 (by decide +kernel) rfl, lw_gm 1779 (by decide +kernel) rfl, ⟨by decide, by decide, by decide +kernel⟩, by decide⟩, lw_gm 1778 (by decide +kernel) rfl, lw_gm 48 (by decide +kernel) rfl, _, _, rfl⟩
theorem lc_X12_282 : xlV RX12 282 yX12_isDigit cX12_isDigit 1 (some .boolean) 0 11 := ⟨⟨lw_gm 1808 (by decide +kernel) rfl, lw_gm 117 (by decide +kernel) rfl, lw_gm 1811 (by decide +kernel) rfl, ⟨by decide, by decide, by decide +kernel⟩, by decide⟩, lw_gm 1810 (by decide +kernel) rfl, lw_gm 56 (by decide +kernel) rfl, _, _, rfl⟩
theorem lc_X12_285 : xlV RX12 285 yX12_atom cX12_atom 4 (some .int) 0 11 := ⟨⟨lw_gm 1800 (by decide +kernel) rfl, lw_gm 117 (by decide +kernel) rfl, lw_gm 1803 (by decide +kernel) rfl, ⟨by decide, by decide, by decide +kernel⟩, by decide⟩, lw_gm 1802 (by decide +kernel) rfl, lw_gm 54 (by decide +kernel) rfl, _, _, rfl⟩
theorem lc_X12_288 : xlS RX12 288 yX12_within cX12_within 2 (some .int) 1 := ⟨⟨lw_gm 1812 (by decide +kernel) rfl, lw_gm 117 (by decide +kernel) rfl, lw_gm 1814 (by decide +kernel) rfl, ⟨by decide, by decide, by decide +kernel⟩, by decide⟩, lw_gm 1813 (by decide +kernel) rfl⟩
theorem lc_X12_292 : xlV RX12 292 yX12_term cX12_term 5 (some .int) 0 11 := ⟨⟨lw_gm 1796 (by decide +kernel) rfl, lw_gm 117 (by decide +kernel) rfl, lw_gm 1799 (by decide +kernel) rfl, ⟨by decide, by decide, by decide +kernel⟩, by decide⟩, lw_gm 1798 (by decide +kernel) rfl, lw_gm 53 (by decide +kernel) rfl, _, _, rfl⟩
theorem lc_X12_295 : xlS RX12 295 yX12_isSign cX12_isSign 1 (some .boolean) 1 := ⟨⟨lw_gm 1819 (by decide +kernel) rfl, lw_gm 117 (by decide +kernel) rfl, lw_gm 1821 (by decide +kernel) rfl, ⟨by decide, by decide, by decide +kernel⟩, by decide⟩, lw_gm 1820 (by decide +kernel) rfl⟩
theorem lc_X12_298 : xlV RX12 298 yX12_unit cX12_unit 3 (some .boolean) 0 11 := ⟨⟨lw_gm 1822 (by decide +kernel) rfl, lw_gm 117 (by decide +kernel) rfl, lw_gm 1825 (by decide +kernel) rfl, ⟨by decide, by decide, by decide +kernel⟩, by decide⟩, lw_gm 1824 (by decide +kernel) rfl, lw_gm 57 (by decide +kernel) rfl, _, _, rfl⟩
theorem lc_X12_301 : xlV RX12 301 yX12_condition cX12_condition 5 (some .boolean) 2 11 := ⟨⟨lw_gm 1780 (by decide +kernel) rfl, lw_gm 117 (by decide +kernel) rfl, lw_gm 1783 (by decide +kernel) rfl, ⟨by decide, by decide, by decide +kernel⟩, by decide⟩, lw_gm 1782 (by decide +kernel) rfl, lw_gm 49 (by decide +kernel) rfl, _, _, rfl⟩
theorem lc_X12_305 : xlV RX12 305 yX12_compares cX12_compares 6 (some .boolean) 2 11 := ⟨⟨lw_gm 1788 (by decide +kernel) rfl, lw_gm 117 (by decide +kernel) rfl, lw_gm 1791 (by decide +kernel) rfl, ⟨by decide, by decide, by decide +kernel⟩, by decide⟩, lw_gm 1790 (by decide +kernel) rfl, lw_gm 51 (by decide +kernel) rfl, _, _, rfl⟩
theorem lc_X12_308 : xlV RX12 308 yX12_part cX12_part 5 (some .boolean) 2 11 := ⟨⟨lw_gm 1784 (by decide +kernel) rfl, lw_gm 117 (by decide +kernel) rfl, lw_gm 1787 (by decide +kernel) rfl, ⟨by decide, by decide, by decide +kernel⟩, by decide⟩, lw_gm 1786 (by decide +kernel) rfl, lw_gm 50 (by decide +kernel) rfl, _, _, rfl⟩
theorem lc_X12_321 : xlV RX12 321 yX12_clause cX12_clause 5 none 0 11 := ⟨⟨lw_gm 1713 (by decide +kernel) rfl, lw_gm 117 (by decide +kernel) rfl, lw_gm 1716 (by decide +kernel) rfl, ⟨by decide, by decide, by decide +kernel⟩, by decide⟩, lw_gm 1715 (by decide +kernel) rfl, lw_gm 45 (by decide +kernel) rfl, _, _, rfl⟩
theorem lc_X12_324 : xlV RX12 324 yX12_goThrough cX12_goThrough 4 none 3 11 := ⟨⟨lw_gm 1709 (by decide +kernel) rfl, lw_gm 117 (by decide +kernel) rfl, lw_gm 1712 (by decide +kernel) rfl, ⟨by decide, by decide, by decide +kernel⟩, by decide⟩, lw_gm 1711 (by decide +kernel) rfl, lw_gm 44 (by decide +kernel) rfl, _, _, rfl⟩
theorem lc_X12_334 : xlS RX12 334 yX12_isNumber cX12_isNumber 1 (some .boolean) 1 := ⟨⟨lw_gm 1838 (by decide +kernel) rfl, lw_gm 117 (by decide +kernel) rfl, lw_gm 1840 (by decide +kernel) rfl, ⟨by decide, by decide, by decide +kernel⟩, by decide⟩, lw_gm 1839 (by decide +kernel) rfl⟩
def P_X12_within  (x0 : Int64)   (M : xM) : Int32 :=
  (jmaxl (-1000000 : Int64) (jminl (1000000 : Int64) x0)).toInt32
set_option maxRecDepth 100000 in
set_option maxHeartbeats 4000000 in
theorem w_X12_within {l : Launch} (x0 : Int64)     (M : xM)  : AW SM l RX12 cX12_within 2 (some .int) 2 ki (some (P_X12_within x0  M, M)) 0 [some (xl x0), none] [] M := by
  unfold P_X12_within
  refine A_ldc2 (v := (-1000000 : Int64)) dX12_within_0 lk_X12_260 ?_
  refine A_ldc2 (v := (1000000 : Int64)) dX12_within_3 lk_X12_262 ?_
  refine A_lload_n dX12_within_6 rfl ?_
  refine A_jminl lc_X12_264 (by decide) (Nat.le_of_ble_eq_true rfl) dX12_within_7 ?_
  refine A_jmaxl lc_X12_267 (by decide) (Nat.le_of_ble_eq_true rfl) dX12_within_10 ?_
  refine A_l2i dX12_within_13 ?_
  exact A_iret rfl dX12_within_14
theorem a_X12_within {l : Launch}  (x0 : Int64) (M : xM)  : AM SM l yX12_within cX12_within 2 (some .int) 2 ki [xl x0] M (some (P_X12_within  x0  M, M)) :=
  AM.of (L0 := [some (xl x0), none]) (w_X12_within (l := l) x0  M ) (by decide +kernel) rfl (Nat.le_of_ble_eq_true rfl) ⟨rfl, trivial⟩
def F_X12_sum_b77 (fu : Nat) (g_sum : xM → Option (Int32 × xM)) (g_term : xM → Option (Int32 × xM)) (g_atom : xM → Option (Int32 × xM))  (k5 : Int32 → xM → Option (Int32 × xM)) (s0 : Int64) (M : xM) : Option (Int32 × xM) :=
  k5 (P_X12_within s0 M) M
set_option maxRecDepth 100000 in
set_option maxHeartbeats 4000000 in
theorem a_X12_sum_b77 {l : Launch} (fu : Nat) {d dd : Nat} (g_sum : xM → Option (Int32 × xM)) (g_term : xM → Option (Int32 × xM)) (g_atom : xM → Option (Int32 × xM)) (hd : dd + 1 ≤ d) (hD : 10 ≤ d) (hg_sum : ∀ (M : xM), AM SM l yX12_sum cX12_sum 5 (some .int) dd ki [xr 0] M (g_sum  M)) (hg_term : ∀ (M : xM), AM SM l yX12_term cX12_term 5 (some .int) dd ki [xr 0] M (g_term  M)) (hg_atom : ∀ (M : xM), AM SM l yX12_atom cX12_atom 4 (some .int) dd ki [xr 0] M (g_atom  M))   {k5 : Int32 → xM → Option (Int32 × xM)} (hk5 : ∀ (b0 : Int32) (M : xM), AW SM l RX12 cX12_sum 5 (some .int) d ki (k5 b0 M) 5 [some (xr 0), some (xi b0), none, none, none] [] M) (s0 : Int64) (M : xM)  : AW SM l RX12 cX12_sum 5 (some .int) d ki (F_X12_sum_b77 fu g_sum g_term g_atom k5 s0 M) 77 [some (xr 0), none, none, none, none] [xl s0] M := by
  unfold F_X12_sum_b77
  refine A_callSp (a_X12_within (l := l) _ _ ) lc_X12_288 rfl (by omega) (Nat.le_of_ble_eq_true rfl) rfl dX12_sum_77 ?_
  refine A_istore_n dX12_sum_80 (Nat.le_of_ble_eq_true rfl) rfl ?_
  refine A_goto (tgt := 5) dX12_sum_81 (by decide) ?_
  exact (hk5 _ _).sub ⟨rfl, rfl, trivial⟩
def F_X12_sum_b45 (fu : Nat) (g_sum : xM → Option (Int32 × xM)) (g_term : xM → Option (Int32 × xM)) (g_atom : xM → Option (Int32 × xM))  (k5 : Int32 → xM → Option (Int32 × xM)) (x1 : Int32) (s0 : Int32) (M : xM) : Option (Int32 × xM) :=
  (g_term (xset M 0 20 ((M 0 20) + (1 : Int32)))).bind fun q1 =>
  (if s0 = 0 then
  F_X12_sum_b77 fu g_sum g_term g_atom k5 (x1.toInt64 - q1.1.toInt64) q1.2
  else
  F_X12_sum_b77 fu g_sum g_term g_atom k5 (x1.toInt64 + q1.1.toInt64) q1.2)
set_option maxRecDepth 100000 in
set_option maxHeartbeats 4000000 in
theorem a_X12_sum_b45 {l : Launch} (fu : Nat) {d dd : Nat} (g_sum : xM → Option (Int32 × xM)) (g_term : xM → Option (Int32 × xM)) (g_atom : xM → Option (Int32 × xM)) (hd : dd + 1 ≤ d) (hD : 10 ≤ d) (hg_sum : ∀ (M : xM), AM SM l yX12_sum cX12_sum 5 (some .int) dd ki [xr 0] M (g_sum  M)) (hg_term : ∀ (M : xM), AM SM l yX12_term cX12_term 5 (some .int) dd ki [xr 0] M (g_term  M)) (hg_atom : ∀ (M : xM), AM SM l yX12_atom cX12_atom 4 (some .int) dd ki [xr 0] M (g_atom  M))   {k5 : Int32 → xM → Option (Int32 × xM)} (hk5 : ∀ (b0 : Int32) (M : xM), AW SM l RX12 cX12_sum 5 (some .int) d ki (k5 b0 M) 5 [some (xr 0), some (xi b0), none, none, none] [] M) (x1 : Int32) (s0 : Int32) (M : xM)  : AW SM l RX12 cX12_sum 5 (some .int) d ki (F_X12_sum_b45 fu g_sum g_term g_atom k5 x1 s0 M) 45 [some (xr 0), some (xi x1), none, none, none] [xi s0] M := by
  unfold F_X12_sum_b45
  refine A_istore_n dX12_sum_45 (Nat.le_of_ble_eq_true rfl) rfl ?_
  refine A_aload_n dX12_sum_46 rfl ?_
  refine A_dup dX12_sum_47 rfl ?_
  refine A_geti lf_X12_238 rfl rfl dX12_sum_48 ?_
  refine A_iconst (v := (1 : Int32)) dX12_sum_51 oI_1 ?_
  refine A_iadd dX12_sum_52 ?_
  refine A_puti lf_X12_238 rfl rfl dX12_sum_53 ?_
  refine A_aload_n dX12_sum_56 rfl ?_
  refine A_callVi (hg_term  _) lc_X12_292 rfl rfl hd (Nat.le_of_ble_eq_true rfl) rfl dX12_sum_57 (fun q1 Mq1 hq1 => ?_)
  refine A_i2l dX12_sum_60 ?_
  refine A_lstore_n dX12_sum_61 (Nat.le_of_ble_eq_true rfl) rfl ?_
  refine A_iload_n dX12_sum_62 rfl ?_
  refine A_if_eq (tgt := 73) dX12_sum_63 (by decide) (fun _ => ?_) (fun _ => ?_)
  · refine A_iload_n dX12_sum_73 rfl ?_
    refine A_i2l dX12_sum_74 ?_
    refine A_lload_n dX12_sum_75 rfl ?_
    refine A_lsub dX12_sum_76 ?_
    exact (a_X12_sum_b77 (l := l) fu g_sum g_term g_atom hd hD hg_sum hg_term hg_atom hk5 _ _ ).sub ⟨rfl, trivial⟩
  · refine A_iload_n dX12_sum_66 rfl ?_
    refine A_i2l dX12_sum_67 ?_
    refine A_lload_n dX12_sum_68 rfl ?_
    refine A_ladd dX12_sum_69 ?_
    refine A_goto (tgt := 77) dX12_sum_70 (by decide) ?_
    exact (a_X12_sum_b77 (l := l) fu g_sum g_term g_atom hd hD hg_sum hg_term hg_atom hk5 _ _ ).sub ⟨rfl, trivial⟩
def F_X12_sum_b31 (fu : Nat) (g_sum : xM → Option (Int32 × xM)) (g_term : xM → Option (Int32 × xM)) (g_atom : xM → Option (Int32 × xM))  (k5 : Int32 → xM → Option (Int32 × xM)) (x1 : Int32) (M : xM) : Option (Int32 × xM) :=
  (F_X12_look fu M).bind fun q1 =>
  (if q1.1 = (43 : Int32) then
  F_X12_sum_b45 fu g_sum g_term g_atom k5 x1 (1 : Int32) q1.2
  else
  F_X12_sum_b45 fu g_sum g_term g_atom k5 x1 (0 : Int32) q1.2)
set_option maxRecDepth 100000 in
set_option maxHeartbeats 4000000 in
theorem a_X12_sum_b31 {l : Launch} (fu : Nat) {d dd : Nat} (g_sum : xM → Option (Int32 × xM)) (g_term : xM → Option (Int32 × xM)) (g_atom : xM → Option (Int32 × xM)) (hd : dd + 1 ≤ d) (hD : 10 ≤ d) (hg_sum : ∀ (M : xM), AM SM l yX12_sum cX12_sum 5 (some .int) dd ki [xr 0] M (g_sum  M)) (hg_term : ∀ (M : xM), AM SM l yX12_term cX12_term 5 (some .int) dd ki [xr 0] M (g_term  M)) (hg_atom : ∀ (M : xM), AM SM l yX12_atom cX12_atom 4 (some .int) dd ki [xr 0] M (g_atom  M))   {k5 : Int32 → xM → Option (Int32 × xM)} (hk5 : ∀ (b0 : Int32) (M : xM), AW SM l RX12 cX12_sum 5 (some .int) d ki (k5 b0 M) 5 [some (xr 0), some (xi b0), none, none, none] [] M) (x1 : Int32) (M : xM)  : AW SM l RX12 cX12_sum 5 (some .int) d ki (F_X12_sum_b31 fu g_sum g_term g_atom k5 x1 M) 31 [some (xr 0), some (xi x1), none, none, none] [] M := by
  unfold F_X12_sum_b31
  refine A_aload_n dX12_sum_31 rfl ?_
  refine A_callVi (a_X12_look (l := l) fu  _ ) lc_X12_257 rfl rfl (by omega) (Nat.le_of_ble_eq_true rfl) rfl dX12_sum_32 (fun q1 Mq1 hq1 => ?_)
  refine A_bipush (v := (43 : Int32)) dX12_sum_35 oB_43 ?_
  refine A_icmp_ne (tgt := 44) dX12_sum_37 (by decide) (fun _ => ?_) (fun _ => ?_)
  · refine A_iconst (v := (1 : Int32)) dX12_sum_40 oI_1 ?_
    refine A_goto (tgt := 45) dX12_sum_41 (by decide) ?_
    exact (a_X12_sum_b45 (l := l) fu g_sum g_term g_atom hd hD hg_sum hg_term hg_atom hk5 _ _ _ ).sub ⟨rfl, rfl, trivial⟩
  · refine A_iconst (v := (0 : Int32)) dX12_sum_44 oI_0 ?_
    exact (a_X12_sum_b45 (l := l) fu g_sum g_term g_atom hd hD hg_sum hg_term hg_atom hk5 _ _ _ ).sub ⟨rfl, rfl, trivial⟩
def F_X12_sum_b5 (fu : Nat) (g_sum : xM → Option (Int32 × xM)) (g_term : xM → Option (Int32 × xM)) (g_atom : xM → Option (Int32 × xM))   : Nat → Int32 → xM → Option (Int32 × xM)
  | 0, _, _ => none
  | n + 1, x1, M =>
    (if (M 0 21) = (-1 : Int32) then
    (F_X12_look fu M).bind fun q1 =>
    (if q1.1 = (43 : Int32) then
    F_X12_sum_b31 fu g_sum g_term g_atom (F_X12_sum_b5 fu g_sum g_term g_atom n) x1 q1.2
    else
    (F_X12_look fu q1.2).bind fun q2 =>
    (if q2.1 = (45 : Int32) then
    F_X12_sum_b31 fu g_sum g_term g_atom (F_X12_sum_b5 fu g_sum g_term g_atom n) x1 q2.2
    else
    some (x1, q2.2)))
    else
    some (x1, M))
set_option maxRecDepth 100000 in
set_option maxHeartbeats 4000000 in
theorem a_X12_sum_b5 {l : Launch} (fu : Nat) {d dd : Nat} (g_sum : xM → Option (Int32 × xM)) (g_term : xM → Option (Int32 × xM)) (g_atom : xM → Option (Int32 × xM)) (hd : dd + 1 ≤ d) (hD : 10 ≤ d) (hg_sum : ∀ (M : xM), AM SM l yX12_sum cX12_sum 5 (some .int) dd ki [xr 0] M (g_sum  M)) (hg_term : ∀ (M : xM), AM SM l yX12_term cX12_term 5 (some .int) dd ki [xr 0] M (g_term  M)) (hg_atom : ∀ (M : xM), AM SM l yX12_atom cX12_atom 4 (some .int) dd ki [xr 0] M (g_atom  M))     : ∀ (n : Nat) (x1 : Int32) (M : xM), AW SM l RX12 cX12_sum 5 (some .int) d ki (F_X12_sum_b5 fu g_sum g_term g_atom n x1 M) 5 [some (xr 0), some (xi x1), none, none, none] [] M := by
  intro n
  induction n with
  | zero =>
    intro x1 M
    exact AW.none
  | succ n ih =>
    intro x1 M
    rw [F_X12_sum_b5]
    refine A_aload_n dX12_sum_5 rfl ?_
    refine A_geti lf_X12_247 rfl rfl dX12_sum_6 ?_
    refine A_iconst (v := (-1 : Int32)) dX12_sum_9 oI_m1 ?_
    refine A_icmp_ne (tgt := 84) dX12_sum_10 (by decide) (fun _ => ?_) (fun _ => ?_)
    · refine A_aload_n dX12_sum_13 rfl ?_
      refine A_callVi (a_X12_look (l := l) fu  _ ) lc_X12_257 rfl rfl (by omega) (Nat.le_of_ble_eq_true rfl) rfl dX12_sum_14 (fun q1 Mq1 hq1 => ?_)
      refine A_bipush (v := (43 : Int32)) dX12_sum_17 oB_43 ?_
      refine A_icmp_eq (tgt := 31) dX12_sum_19 (by decide) (fun _ => ?_) (fun _ => ?_)
      · exact (a_X12_sum_b31 (l := l) fu g_sum g_term g_atom hd hD hg_sum hg_term hg_atom ih _ _ ).sub ⟨rfl, rfl, trivial⟩
      · refine A_aload_n dX12_sum_22 rfl ?_
        refine A_callVi (a_X12_look (l := l) fu  _ ) lc_X12_257 rfl rfl (by omega) (Nat.le_of_ble_eq_true rfl) rfl dX12_sum_23 (fun q2 Mq2 hq2 => ?_)
        refine A_bipush (v := (45 : Int32)) dX12_sum_26 oB_45 ?_
        refine A_icmp_ne (tgt := 84) dX12_sum_28 (by decide) (fun _ => ?_) (fun _ => ?_)
        · exact (a_X12_sum_b31 (l := l) fu g_sum g_term g_atom hd hD hg_sum hg_term hg_atom ih _ _ ).sub ⟨rfl, rfl, trivial⟩
        · refine A_iload_n dX12_sum_84 rfl ?_
          exact A_iret rfl dX12_sum_85
    · refine A_iload_n dX12_sum_84 rfl ?_
      exact A_iret rfl dX12_sum_85
def F_X12_sum (fu : Nat) (g_sum : xM → Option (Int32 × xM)) (g_term : xM → Option (Int32 × xM)) (g_atom : xM → Option (Int32 × xM))    (M : xM) : Option (Int32 × xM) :=
  (g_term M).bind fun q1 =>
  F_X12_sum_b5 fu g_sum g_term g_atom fu q1.1 q1.2
set_option maxRecDepth 100000 in
set_option maxHeartbeats 4000000 in
theorem w_X12_sum {l : Launch} (fu : Nat) {d dd : Nat} (g_sum : xM → Option (Int32 × xM)) (g_term : xM → Option (Int32 × xM)) (g_atom : xM → Option (Int32 × xM)) (hd : dd + 1 ≤ d) (hD : 10 ≤ d) (hg_sum : ∀ (M : xM), AM SM l yX12_sum cX12_sum 5 (some .int) dd ki [xr 0] M (g_sum  M)) (hg_term : ∀ (M : xM), AM SM l yX12_term cX12_term 5 (some .int) dd ki [xr 0] M (g_term  M)) (hg_atom : ∀ (M : xM), AM SM l yX12_atom cX12_atom 4 (some .int) dd ki [xr 0] M (g_atom  M))      (M : xM)  : AW SM l RX12 cX12_sum 5 (some .int) d ki (F_X12_sum fu g_sum g_term g_atom  M) 0 [some (xr 0), none, none, none, none] [] M := by
  unfold F_X12_sum
  refine A_aload_n dX12_sum_0 rfl ?_
  refine A_callVi (hg_term  _) lc_X12_292 rfl rfl hd (Nat.le_of_ble_eq_true rfl) rfl dX12_sum_1 (fun q1 Mq1 hq1 => ?_)
  refine A_istore_n dX12_sum_4 (Nat.le_of_ble_eq_true rfl) rfl ?_
  exact (a_X12_sum_b5 (l := l) fu g_sum g_term g_atom hd hD hg_sum hg_term hg_atom  fu _ _).sub ⟨rfl, rfl, trivial⟩
theorem a_X12_sum {l : Launch} (fu : Nat) {d dd : Nat} (g_sum : xM → Option (Int32 × xM)) (g_term : xM → Option (Int32 × xM)) (g_atom : xM → Option (Int32 × xM)) (hd : dd + 1 ≤ d) (hD : 10 ≤ d) (hg_sum : ∀ (M : xM), AM SM l yX12_sum cX12_sum 5 (some .int) dd ki [xr 0] M (g_sum  M)) (hg_term : ∀ (M : xM), AM SM l yX12_term cX12_term 5 (some .int) dd ki [xr 0] M (g_term  M)) (hg_atom : ∀ (M : xM), AM SM l yX12_atom cX12_atom 4 (some .int) dd ki [xr 0] M (g_atom  M))   (M : xM)  : AM SM l yX12_sum cX12_sum 5 (some .int) d ki [xr 0] M (F_X12_sum fu g_sum g_term g_atom   M) :=
  AM.of (L0 := [some (xr 0), none, none, none, none]) (w_X12_sum (l := l) fu g_sum g_term g_atom hd hD hg_sum hg_term hg_atom  M ) (by decide +kernel) rfl (Nat.le_of_ble_eq_true rfl) ⟨rfl, trivial⟩
def F_X12_term_b87 (fu : Nat) (g_sum : xM → Option (Int32 × xM)) (g_term : xM → Option (Int32 × xM)) (g_atom : xM → Option (Int32 × xM))  (k5 : Int32 → xM → Option (Int32 × xM)) (s0 : Int64) (M : xM) : Option (Int32 × xM) :=
  k5 (P_X12_within s0 M) M
set_option maxRecDepth 100000 in
set_option maxHeartbeats 4000000 in
theorem a_X12_term_b87 {l : Launch} (fu : Nat) {d dd : Nat} (g_sum : xM → Option (Int32 × xM)) (g_term : xM → Option (Int32 × xM)) (g_atom : xM → Option (Int32 × xM)) (hd : dd + 1 ≤ d) (hD : 10 ≤ d) (hg_sum : ∀ (M : xM), AM SM l yX12_sum cX12_sum 5 (some .int) dd ki [xr 0] M (g_sum  M)) (hg_term : ∀ (M : xM), AM SM l yX12_term cX12_term 5 (some .int) dd ki [xr 0] M (g_term  M)) (hg_atom : ∀ (M : xM), AM SM l yX12_atom cX12_atom 4 (some .int) dd ki [xr 0] M (g_atom  M))   {k5 : Int32 → xM → Option (Int32 × xM)} (hk5 : ∀ (b0 : Int32) (M : xM), AW SM l RX12 cX12_term 5 (some .int) d ki (k5 b0 M) 5 [some (xr 0), some (xi b0), none, none, none] [] M) (s0 : Int64) (M : xM)  : AW SM l RX12 cX12_term 5 (some .int) d ki (F_X12_term_b87 fu g_sum g_term g_atom k5 s0 M) 87 [some (xr 0), none, none, none, none] [xl s0] M := by
  unfold F_X12_term_b87
  refine A_callSp (a_X12_within (l := l) _ _ ) lc_X12_288 rfl (by omega) (Nat.le_of_ble_eq_true rfl) rfl dX12_term_87 ?_
  refine A_istore_n dX12_term_90 (Nat.le_of_ble_eq_true rfl) rfl ?_
  refine A_goto (tgt := 5) dX12_term_91 (by decide) ?_
  exact (hk5 _ _).sub ⟨rfl, rfl, trivial⟩
def F_X12_term_b45 (fu : Nat) (g_sum : xM → Option (Int32 × xM)) (g_term : xM → Option (Int32 × xM)) (g_atom : xM → Option (Int32 × xM))  (k5 : Int32 → xM → Option (Int32 × xM)) (x1 : Int32) (s0 : Int32) (M : xM) : Option (Int32 × xM) :=
  (g_atom (xset M 0 20 ((M 0 20) + (1 : Int32)))).bind fun q1 =>
  (if s0 = 0 then
  (if (lg_cmp q1.1.toInt64 (0 : Int64)) = 0 then
  F_X12_term_b87 fu g_sum g_term g_atom k5 (0 : Int64) q1.2
  else
  if q1.1.toInt64 = 0 then none else
  F_X12_term_b87 fu g_sum g_term g_atom k5 (x1.toInt64 / q1.1.toInt64) q1.2)
  else
  F_X12_term_b87 fu g_sum g_term g_atom k5 (x1.toInt64 * q1.1.toInt64) q1.2)
set_option maxRecDepth 100000 in
set_option maxHeartbeats 4000000 in
theorem a_X12_term_b45 {l : Launch} (fu : Nat) {d dd : Nat} (g_sum : xM → Option (Int32 × xM)) (g_term : xM → Option (Int32 × xM)) (g_atom : xM → Option (Int32 × xM)) (hd : dd + 1 ≤ d) (hD : 10 ≤ d) (hg_sum : ∀ (M : xM), AM SM l yX12_sum cX12_sum 5 (some .int) dd ki [xr 0] M (g_sum  M)) (hg_term : ∀ (M : xM), AM SM l yX12_term cX12_term 5 (some .int) dd ki [xr 0] M (g_term  M)) (hg_atom : ∀ (M : xM), AM SM l yX12_atom cX12_atom 4 (some .int) dd ki [xr 0] M (g_atom  M))   {k5 : Int32 → xM → Option (Int32 × xM)} (hk5 : ∀ (b0 : Int32) (M : xM), AW SM l RX12 cX12_term 5 (some .int) d ki (k5 b0 M) 5 [some (xr 0), some (xi b0), none, none, none] [] M) (x1 : Int32) (s0 : Int32) (M : xM)  : AW SM l RX12 cX12_term 5 (some .int) d ki (F_X12_term_b45 fu g_sum g_term g_atom k5 x1 s0 M) 45 [some (xr 0), some (xi x1), none, none, none] [xi s0] M := by
  unfold F_X12_term_b45
  refine A_istore_n dX12_term_45 (Nat.le_of_ble_eq_true rfl) rfl ?_
  refine A_aload_n dX12_term_46 rfl ?_
  refine A_dup dX12_term_47 rfl ?_
  refine A_geti lf_X12_238 rfl rfl dX12_term_48 ?_
  refine A_iconst (v := (1 : Int32)) dX12_term_51 oI_1 ?_
  refine A_iadd dX12_term_52 ?_
  refine A_puti lf_X12_238 rfl rfl dX12_term_53 ?_
  refine A_aload_n dX12_term_56 rfl ?_
  refine A_callVi (hg_atom  _) lc_X12_285 rfl rfl hd (Nat.le_of_ble_eq_true rfl) rfl dX12_term_57 (fun q1 Mq1 hq1 => ?_)
  refine A_i2l dX12_term_60 ?_
  refine A_lstore_n dX12_term_61 (Nat.le_of_ble_eq_true rfl) rfl ?_
  refine A_iload_n dX12_term_62 rfl ?_
  refine A_if_eq (tgt := 73) dX12_term_63 (by decide) (fun _ => ?_) (fun _ => ?_)
  · refine A_lload_n dX12_term_73 rfl ?_
    refine A_lconst (v := (0 : Int64)) dX12_term_74 (by decide) ?_
    refine A_lcmp dX12_term_75 ?_
    refine A_if_ne (tgt := 83) dX12_term_76 (by decide) (fun _ => ?_) (fun _ => ?_)
    · refine A_lconst (v := (0 : Int64)) dX12_term_79 (by decide) ?_
      refine A_goto (tgt := 87) dX12_term_80 (by decide) ?_
      exact (a_X12_term_b87 (l := l) fu g_sum g_term g_atom hd hD hg_sum hg_term hg_atom hk5 _ _ ).sub ⟨rfl, trivial⟩
    · refine A_iload_n dX12_term_83 rfl ?_
      refine A_i2l dX12_term_84 ?_
      refine A_lload_n dX12_term_85 rfl ?_
      refine A_ldiv dX12_term_86 (fun _ => ?_)
      exact (a_X12_term_b87 (l := l) fu g_sum g_term g_atom hd hD hg_sum hg_term hg_atom hk5 _ _ ).sub ⟨rfl, trivial⟩
  · refine A_iload_n dX12_term_66 rfl ?_
    refine A_i2l dX12_term_67 ?_
    refine A_lload_n dX12_term_68 rfl ?_
    refine A_lmul dX12_term_69 ?_
    refine A_goto (tgt := 87) dX12_term_70 (by decide) ?_
    exact (a_X12_term_b87 (l := l) fu g_sum g_term g_atom hd hD hg_sum hg_term hg_atom hk5 _ _ ).sub ⟨rfl, trivial⟩
def F_X12_term_b31 (fu : Nat) (g_sum : xM → Option (Int32 × xM)) (g_term : xM → Option (Int32 × xM)) (g_atom : xM → Option (Int32 × xM))  (k5 : Int32 → xM → Option (Int32 × xM)) (x1 : Int32) (M : xM) : Option (Int32 × xM) :=
  (F_X12_look fu M).bind fun q1 =>
  (if q1.1 = (42 : Int32) then
  F_X12_term_b45 fu g_sum g_term g_atom k5 x1 (1 : Int32) q1.2
  else
  F_X12_term_b45 fu g_sum g_term g_atom k5 x1 (0 : Int32) q1.2)
set_option maxRecDepth 100000 in
set_option maxHeartbeats 4000000 in
theorem a_X12_term_b31 {l : Launch} (fu : Nat) {d dd : Nat} (g_sum : xM → Option (Int32 × xM)) (g_term : xM → Option (Int32 × xM)) (g_atom : xM → Option (Int32 × xM)) (hd : dd + 1 ≤ d) (hD : 10 ≤ d) (hg_sum : ∀ (M : xM), AM SM l yX12_sum cX12_sum 5 (some .int) dd ki [xr 0] M (g_sum  M)) (hg_term : ∀ (M : xM), AM SM l yX12_term cX12_term 5 (some .int) dd ki [xr 0] M (g_term  M)) (hg_atom : ∀ (M : xM), AM SM l yX12_atom cX12_atom 4 (some .int) dd ki [xr 0] M (g_atom  M))   {k5 : Int32 → xM → Option (Int32 × xM)} (hk5 : ∀ (b0 : Int32) (M : xM), AW SM l RX12 cX12_term 5 (some .int) d ki (k5 b0 M) 5 [some (xr 0), some (xi b0), none, none, none] [] M) (x1 : Int32) (M : xM)  : AW SM l RX12 cX12_term 5 (some .int) d ki (F_X12_term_b31 fu g_sum g_term g_atom k5 x1 M) 31 [some (xr 0), some (xi x1), none, none, none] [] M := by
  unfold F_X12_term_b31
  refine A_aload_n dX12_term_31 rfl ?_
  refine A_callVi (a_X12_look (l := l) fu  _ ) lc_X12_257 rfl rfl (by omega) (Nat.le_of_ble_eq_true rfl) rfl dX12_term_32 (fun q1 Mq1 hq1 => ?_)
  refine A_bipush (v := (42 : Int32)) dX12_term_35 oB_42 ?_
  refine A_icmp_ne (tgt := 44) dX12_term_37 (by decide) (fun _ => ?_) (fun _ => ?_)
  · refine A_iconst (v := (1 : Int32)) dX12_term_40 oI_1 ?_
    refine A_goto (tgt := 45) dX12_term_41 (by decide) ?_
    exact (a_X12_term_b45 (l := l) fu g_sum g_term g_atom hd hD hg_sum hg_term hg_atom hk5 _ _ _ ).sub ⟨rfl, rfl, trivial⟩
  · refine A_iconst (v := (0 : Int32)) dX12_term_44 oI_0 ?_
    exact (a_X12_term_b45 (l := l) fu g_sum g_term g_atom hd hD hg_sum hg_term hg_atom hk5 _ _ _ ).sub ⟨rfl, rfl, trivial⟩
def F_X12_term_b5 (fu : Nat) (g_sum : xM → Option (Int32 × xM)) (g_term : xM → Option (Int32 × xM)) (g_atom : xM → Option (Int32 × xM))   : Nat → Int32 → xM → Option (Int32 × xM)
  | 0, _, _ => none
  | n + 1, x1, M =>
    (if (M 0 21) = (-1 : Int32) then
    (F_X12_look fu M).bind fun q1 =>
    (if q1.1 = (42 : Int32) then
    F_X12_term_b31 fu g_sum g_term g_atom (F_X12_term_b5 fu g_sum g_term g_atom n) x1 q1.2
    else
    (F_X12_look fu q1.2).bind fun q2 =>
    (if q2.1 = (47 : Int32) then
    F_X12_term_b31 fu g_sum g_term g_atom (F_X12_term_b5 fu g_sum g_term g_atom n) x1 q2.2
    else
    some (x1, q2.2)))
    else
    some (x1, M))
set_option maxRecDepth 100000 in
set_option maxHeartbeats 4000000 in
theorem a_X12_term_b5 {l : Launch} (fu : Nat) {d dd : Nat} (g_sum : xM → Option (Int32 × xM)) (g_term : xM → Option (Int32 × xM)) (g_atom : xM → Option (Int32 × xM)) (hd : dd + 1 ≤ d) (hD : 10 ≤ d) (hg_sum : ∀ (M : xM), AM SM l yX12_sum cX12_sum 5 (some .int) dd ki [xr 0] M (g_sum  M)) (hg_term : ∀ (M : xM), AM SM l yX12_term cX12_term 5 (some .int) dd ki [xr 0] M (g_term  M)) (hg_atom : ∀ (M : xM), AM SM l yX12_atom cX12_atom 4 (some .int) dd ki [xr 0] M (g_atom  M))     : ∀ (n : Nat) (x1 : Int32) (M : xM), AW SM l RX12 cX12_term 5 (some .int) d ki (F_X12_term_b5 fu g_sum g_term g_atom n x1 M) 5 [some (xr 0), some (xi x1), none, none, none] [] M := by
  intro n
  induction n with
  | zero =>
    intro x1 M
    exact AW.none
  | succ n ih =>
    intro x1 M
    rw [F_X12_term_b5]
    refine A_aload_n dX12_term_5 rfl ?_
    refine A_geti lf_X12_247 rfl rfl dX12_term_6 ?_
    refine A_iconst (v := (-1 : Int32)) dX12_term_9 oI_m1 ?_
    refine A_icmp_ne (tgt := 94) dX12_term_10 (by decide) (fun _ => ?_) (fun _ => ?_)
    · refine A_aload_n dX12_term_13 rfl ?_
      refine A_callVi (a_X12_look (l := l) fu  _ ) lc_X12_257 rfl rfl (by omega) (Nat.le_of_ble_eq_true rfl) rfl dX12_term_14 (fun q1 Mq1 hq1 => ?_)
      refine A_bipush (v := (42 : Int32)) dX12_term_17 oB_42 ?_
      refine A_icmp_eq (tgt := 31) dX12_term_19 (by decide) (fun _ => ?_) (fun _ => ?_)
      · exact (a_X12_term_b31 (l := l) fu g_sum g_term g_atom hd hD hg_sum hg_term hg_atom ih _ _ ).sub ⟨rfl, rfl, trivial⟩
      · refine A_aload_n dX12_term_22 rfl ?_
        refine A_callVi (a_X12_look (l := l) fu  _ ) lc_X12_257 rfl rfl (by omega) (Nat.le_of_ble_eq_true rfl) rfl dX12_term_23 (fun q2 Mq2 hq2 => ?_)
        refine A_bipush (v := (47 : Int32)) dX12_term_26 oB_47 ?_
        refine A_icmp_ne (tgt := 94) dX12_term_28 (by decide) (fun _ => ?_) (fun _ => ?_)
        · exact (a_X12_term_b31 (l := l) fu g_sum g_term g_atom hd hD hg_sum hg_term hg_atom ih _ _ ).sub ⟨rfl, rfl, trivial⟩
        · refine A_iload_n dX12_term_94 rfl ?_
          exact A_iret rfl dX12_term_95
    · refine A_iload_n dX12_term_94 rfl ?_
      exact A_iret rfl dX12_term_95
def F_X12_term (fu : Nat) (g_sum : xM → Option (Int32 × xM)) (g_term : xM → Option (Int32 × xM)) (g_atom : xM → Option (Int32 × xM))    (M : xM) : Option (Int32 × xM) :=
  (g_atom M).bind fun q1 =>
  F_X12_term_b5 fu g_sum g_term g_atom fu q1.1 q1.2
set_option maxRecDepth 100000 in
set_option maxHeartbeats 4000000 in
theorem w_X12_term {l : Launch} (fu : Nat) {d dd : Nat} (g_sum : xM → Option (Int32 × xM)) (g_term : xM → Option (Int32 × xM)) (g_atom : xM → Option (Int32 × xM)) (hd : dd + 1 ≤ d) (hD : 10 ≤ d) (hg_sum : ∀ (M : xM), AM SM l yX12_sum cX12_sum 5 (some .int) dd ki [xr 0] M (g_sum  M)) (hg_term : ∀ (M : xM), AM SM l yX12_term cX12_term 5 (some .int) dd ki [xr 0] M (g_term  M)) (hg_atom : ∀ (M : xM), AM SM l yX12_atom cX12_atom 4 (some .int) dd ki [xr 0] M (g_atom  M))      (M : xM)  : AW SM l RX12 cX12_term 5 (some .int) d ki (F_X12_term fu g_sum g_term g_atom  M) 0 [some (xr 0), none, none, none, none] [] M := by
  unfold F_X12_term
  refine A_aload_n dX12_term_0 rfl ?_
  refine A_callVi (hg_atom  _) lc_X12_285 rfl rfl hd (Nat.le_of_ble_eq_true rfl) rfl dX12_term_1 (fun q1 Mq1 hq1 => ?_)
  refine A_istore_n dX12_term_4 (Nat.le_of_ble_eq_true rfl) rfl ?_
  exact (a_X12_term_b5 (l := l) fu g_sum g_term g_atom hd hD hg_sum hg_term hg_atom  fu _ _).sub ⟨rfl, rfl, trivial⟩
theorem a_X12_term {l : Launch} (fu : Nat) {d dd : Nat} (g_sum : xM → Option (Int32 × xM)) (g_term : xM → Option (Int32 × xM)) (g_atom : xM → Option (Int32 × xM)) (hd : dd + 1 ≤ d) (hD : 10 ≤ d) (hg_sum : ∀ (M : xM), AM SM l yX12_sum cX12_sum 5 (some .int) dd ki [xr 0] M (g_sum  M)) (hg_term : ∀ (M : xM), AM SM l yX12_term cX12_term 5 (some .int) dd ki [xr 0] M (g_term  M)) (hg_atom : ∀ (M : xM), AM SM l yX12_atom cX12_atom 4 (some .int) dd ki [xr 0] M (g_atom  M))   (M : xM)  : AM SM l yX12_term cX12_term 5 (some .int) d ki [xr 0] M (F_X12_term fu g_sum g_term g_atom   M) :=
  AM.of (L0 := [some (xr 0), none, none, none, none]) (w_X12_term (l := l) fu g_sum g_term g_atom hd hD hg_sum hg_term hg_atom  M ) (by decide +kernel) rfl (Nat.le_of_ble_eq_true rfl) ⟨rfl, trivial⟩
def F_X12_atom_b90 (fu : Nat) (g_sum : xM → Option (Int32 × xM)) (g_term : xM → Option (Int32 × xM)) (g_atom : xM → Option (Int32 × xM))   : Nat → Int32 → Int32 → xM → Option (Int32 × xM)
  | 0, _, _, _ => none
  | n + 1, x2, x3, M =>
    (F_X12_isDigit M).bind fun q1 =>
    (if q1.1 = 0 then
    some (x2, q1.2)
    else
    (if (q1.2 0 21) = (-1 : Int32) then
    (if x3 = (4 : Int32) then
    (F_X12_fails q1.2).bind fun q4 =>
    some ((0 : Int32), q4.2)
    else
    (xlen SM 1 ((q1.2 0 14).toNatClampNeg)).bind fun n2 => if ((q1.2 0 18) + (q1.2 0 20)) < 0 ∨ n2 ≤ ((q1.2 0 18) + (q1.2 0 20)).toNatClampNeg then none else
    F_X12_atom_b90 fu g_sum g_term g_atom n ((((10 : Int32) * x2) + (q1.2 ((q1.2 0 14).toNatClampNeg) ((q1.2 0 18) + (q1.2 0 20)).toNatClampNeg)) - (48 : Int32)) (x3 + (1 : Int32)) (xset q1.2 0 20 ((q1.2 0 20) + (1 : Int32))))
    else
    some (x2, q1.2)))
set_option maxRecDepth 100000 in
set_option maxHeartbeats 4000000 in
theorem a_X12_atom_b90 {l : Launch} (fu : Nat) {d dd : Nat} (g_sum : xM → Option (Int32 × xM)) (g_term : xM → Option (Int32 × xM)) (g_atom : xM → Option (Int32 × xM)) (hd : dd + 1 ≤ d) (hD : 10 ≤ d) (hg_sum : ∀ (M : xM), AM SM l yX12_sum cX12_sum 5 (some .int) dd ki [xr 0] M (g_sum  M)) (hg_term : ∀ (M : xM), AM SM l yX12_term cX12_term 5 (some .int) dd ki [xr 0] M (g_term  M)) (hg_atom : ∀ (M : xM), AM SM l yX12_atom cX12_atom 4 (some .int) dd ki [xr 0] M (g_atom  M))     : ∀ (n : Nat) (x2 : Int32) (x3 : Int32) (M : xM), AW SM l RX12 cX12_atom 4 (some .int) d ki (F_X12_atom_b90 fu g_sum g_term g_atom n x2 x3 M) 90 [some (xr 0), none, some (xi x2), some (xi x3)] [] M := by
  intro n
  induction n with
  | zero =>
    intro x2 x3 M
    exact AW.none
  | succ n ih =>
    intro x2 x3 M
    rw [F_X12_atom_b90]
    refine A_aload_n dX12_atom_90 rfl ?_
    refine A_callVi (a_X12_isDigit (l := l)  _ ) lc_X12_282 rfl rfl (by omega) (Nat.le_of_ble_eq_true rfl) rfl dX12_atom_91 (fun q1 Mq1 hq1 => ?_)
    refine A_if_eq (tgt := 156) dX12_atom_94 (by decide) (fun _ => ?_) (fun _ => ?_)
    · refine A_iload_n dX12_atom_156 rfl ?_
      exact A_iret rfl dX12_atom_157
    · refine A_aload_n dX12_atom_97 rfl ?_
      refine A_geti lf_X12_247 rfl rfl dX12_atom_98 ?_
      refine A_iconst (v := (-1 : Int32)) dX12_atom_101 oI_m1 ?_
      refine A_icmp_ne (tgt := 156) dX12_atom_102 (by decide) (fun _ => ?_) (fun _ => ?_)
      · refine A_iload_n dX12_atom_105 rfl ?_
        refine A_iconst (v := (4 : Int32)) dX12_atom_106 oI_4 ?_
        refine A_icmp_ne (tgt := 117) dX12_atom_107 (by decide) (fun _ => ?_) (fun _ => ?_)
        · refine A_aload_n dX12_atom_110 rfl ?_
          refine A_callVi (a_X12_fails (l := l)  _ ) lc_X12_253 rfl rfl (by omega) (Nat.le_of_ble_eq_true rfl) rfl dX12_atom_111 (fun q4 Mq4 hq4 => ?_)
          refine A_pop dX12_atom_114 rfl ?_
          refine A_iconst (v := (0 : Int32)) dX12_atom_115 oI_0 ?_
          exact A_iret rfl dX12_atom_116
        · refine A_bipush (v := (10 : Int32)) dX12_atom_117 oB_10 ?_
          refine A_iload_n dX12_atom_119 rfl ?_
          refine A_imul dX12_atom_120 ?_
          refine A_aload_n dX12_atom_121 rfl ?_
          refine A_getw lf_X12_42 rfl rfl dX12_atom_122 ?_
          refine A_aload_n dX12_atom_125 rfl ?_
          refine A_geti lf_X12_244 rfl rfl dX12_atom_126 ?_
          refine A_aload_n dX12_atom_129 rfl ?_
          refine A_geti lf_X12_238 rfl rfl dX12_atom_130 ?_
          refine A_iadd dX12_atom_133 ?_
          refine A_xlen (fun n2 h3 => ?_)
          refine A_bald h3 dX12_atom_134 (fun _ => ?_)
          refine A_iadd dX12_atom_135 ?_
          refine A_bipush (v := (48 : Int32)) dX12_atom_136 oB_48 ?_
          refine A_isub dX12_atom_138 ?_
          refine A_istore_n dX12_atom_139 (Nat.le_of_ble_eq_true rfl) rfl ?_
          refine A_aload_n dX12_atom_140 rfl ?_
          refine A_dup dX12_atom_141 rfl ?_
          refine A_geti lf_X12_238 rfl rfl dX12_atom_142 ?_
          refine A_iconst (v := (1 : Int32)) dX12_atom_145 oI_1 ?_
          refine A_iadd dX12_atom_146 ?_
          refine A_puti lf_X12_238 rfl rfl dX12_atom_147 ?_
          refine A_iinc dX12_atom_150 rfl oI_1 (Nat.le_of_ble_eq_true rfl) rfl ?_
          refine A_goto (tgt := 90) dX12_atom_153 (by decide) ?_
          exact (ih _ _ _).sub ⟨rfl, rfl, rfl, trivial⟩
      · refine A_iload_n dX12_atom_156 rfl ?_
        exact A_iret rfl dX12_atom_157
def F_X12_atom_b86 (fu : Nat) (g_sum : xM → Option (Int32 × xM)) (g_term : xM → Option (Int32 × xM)) (g_atom : xM → Option (Int32 × xM))    (M : xM) : Option (Int32 × xM) :=
  F_X12_atom_b90 fu g_sum g_term g_atom fu (0 : Int32) (0 : Int32) M
set_option maxRecDepth 100000 in
set_option maxHeartbeats 4000000 in
theorem a_X12_atom_b86 {l : Launch} (fu : Nat) {d dd : Nat} (g_sum : xM → Option (Int32 × xM)) (g_term : xM → Option (Int32 × xM)) (g_atom : xM → Option (Int32 × xM)) (hd : dd + 1 ≤ d) (hD : 10 ≤ d) (hg_sum : ∀ (M : xM), AM SM l yX12_sum cX12_sum 5 (some .int) dd ki [xr 0] M (g_sum  M)) (hg_term : ∀ (M : xM), AM SM l yX12_term cX12_term 5 (some .int) dd ki [xr 0] M (g_term  M)) (hg_atom : ∀ (M : xM), AM SM l yX12_atom cX12_atom 4 (some .int) dd ki [xr 0] M (g_atom  M))      (M : xM)  : AW SM l RX12 cX12_atom 4 (some .int) d ki (F_X12_atom_b86 fu g_sum g_term g_atom  M) 86 [some (xr 0), none, none, none] [] M := by
  unfold F_X12_atom_b86
  refine A_iconst (v := (0 : Int32)) dX12_atom_86 oI_0 ?_
  refine A_istore_n dX12_atom_87 (Nat.le_of_ble_eq_true rfl) rfl ?_
  refine A_iconst (v := (0 : Int32)) dX12_atom_88 oI_0 ?_
  refine A_istore_n dX12_atom_89 (Nat.le_of_ble_eq_true rfl) rfl ?_
  exact (a_X12_atom_b90 (l := l) fu g_sum g_term g_atom hd hD hg_sum hg_term hg_atom  fu _ _ _).sub ⟨rfl, rfl, rfl, trivial⟩
def F_X12_atom (fu : Nat) (g_sum : xM → Option (Int32 × xM)) (g_term : xM → Option (Int32 × xM)) (g_atom : xM → Option (Int32 × xM))    (M : xM) : Option (Int32 × xM) :=
  (F_X12_look fu M).bind fun q1 =>
  (if (P_X12_isAmong 1001 q1.1 q1.2) = 0 then
  (if q1.1 = (91 : Int32) then
  (F_X12_goesIn q1.2).bind fun q4 =>
  (if q4.1 = 0 then
  some ((0 : Int32), q4.2)
  else
  (g_sum q4.2).bind fun q5 =>
  (F_X12_takes fu (93 : Int32) q5.2).bind fun q6 =>
  (if q6.1 = 0 then
  some ((0 : Int32), q6.2)
  else
  some (q5.1, (xset q6.2 0 22 ((q6.2 0 22) - (1 : Int32))))))
  else
  (F_X12_isDigit q1.2).bind fun q2 =>
  (if q2.1 = 0 then
  (F_X12_fails q2.2).bind fun q3 =>
  F_X12_atom_b86 fu g_sum g_term g_atom  q3.2
  else
  F_X12_atom_b86 fu g_sum g_term g_atom  q2.2))
  else
  (if q1.1 < 0 ∨ 128 ≤ q1.1.toNatClampNeg then none else
  some (((xset q1.2 0 20 ((q1.2 0 20) + (1 : Int32))) 10 q1.1.toNatClampNeg), (xset q1.2 0 20 ((q1.2 0 20) + (1 : Int32))))))
set_option maxRecDepth 100000 in
set_option maxHeartbeats 4000000 in
theorem w_X12_atom {l : Launch} (fu : Nat) {d dd : Nat} (g_sum : xM → Option (Int32 × xM)) (g_term : xM → Option (Int32 × xM)) (g_atom : xM → Option (Int32 × xM)) (hd : dd + 1 ≤ d) (hD : 10 ≤ d) (hg_sum : ∀ (M : xM), AM SM l yX12_sum cX12_sum 5 (some .int) dd ki [xr 0] M (g_sum  M)) (hg_term : ∀ (M : xM), AM SM l yX12_term cX12_term 5 (some .int) dd ki [xr 0] M (g_term  M)) (hg_atom : ∀ (M : xM), AM SM l yX12_atom cX12_atom 4 (some .int) dd ki [xr 0] M (g_atom  M))      (M : xM)  : AW SM l RX12 cX12_atom 4 (some .int) d ki (F_X12_atom fu g_sum g_term g_atom  M) 0 [some (xr 0), none, none, none] [] M := by
  unfold F_X12_atom
  refine A_aload_n dX12_atom_0 rfl ?_
  refine A_callVi (a_X12_look (l := l) fu  _ ) lc_X12_257 rfl rfl (by omega) (Nat.le_of_ble_eq_true rfl) rfl dX12_atom_1 (fun q1 Mq1 hq1 => ?_)
  refine A_istore_n dX12_atom_4 (Nat.le_of_ble_eq_true rfl) rfl ?_
  refine A_ldcS1 dX12_atom_5 ?_
  refine A_iload_n dX12_atom_7 rfl ?_
  refine A_callSp (a_X12_isAmong (l := l) _ _ _ ) lc_X12_269 rfl (by omega) (Nat.le_of_ble_eq_true rfl) rfl dX12_atom_8 ?_
  refine A_if_eq (tgt := 31) dX12_atom_11 (by decide) (fun _ => ?_) (fun _ => ?_)
  · refine A_iload_n dX12_atom_31 rfl ?_
    refine A_bipush (v := (91 : Int32)) dX12_atom_32 oB_91 ?_
    refine A_icmp_ne (tgt := 74) dX12_atom_34 (by decide) (fun _ => ?_) (fun _ => ?_)
    · refine A_aload_n dX12_atom_37 rfl ?_
      refine A_callVi (a_X12_goesIn (l := l)  _ ) lc_X12_273 rfl rfl (by omega) (Nat.le_of_ble_eq_true rfl) rfl dX12_atom_38 (fun q4 Mq4 hq4 => ?_)
      refine A_if_ne (tgt := 46) dX12_atom_41 (by decide) (fun _ => ?_) (fun _ => ?_)
      · refine A_iconst (v := (0 : Int32)) dX12_atom_44 oI_0 ?_
        exact A_iret rfl dX12_atom_45
      · refine A_aload_n dX12_atom_46 rfl ?_
        refine A_callVi (hg_sum  _) lc_X12_276 rfl rfl hd (Nat.le_of_ble_eq_true rfl) rfl dX12_atom_47 (fun q5 Mq5 hq5 => ?_)
        refine A_istore_n dX12_atom_50 (Nat.le_of_ble_eq_true rfl) rfl ?_
        refine A_aload_n dX12_atom_51 rfl ?_
        refine A_bipush (v := (93 : Int32)) dX12_atom_52 oB_93 ?_
        refine A_callVi (a_X12_takes (l := l) fu _ _ ) lc_X12_279 rfl rfl (by omega) (Nat.le_of_ble_eq_true rfl) rfl dX12_atom_54 (fun q6 Mq6 hq6 => ?_)
        refine A_if_ne (tgt := 62) dX12_atom_57 (by decide) (fun _ => ?_) (fun _ => ?_)
        · refine A_iconst (v := (0 : Int32)) dX12_atom_60 oI_0 ?_
          exact A_iret rfl dX12_atom_61
        · refine A_aload_n dX12_atom_62 rfl ?_
          refine A_dup dX12_atom_63 rfl ?_
          refine A_geti lf_X12_250 rfl rfl dX12_atom_64 ?_
          refine A_iconst (v := (1 : Int32)) dX12_atom_67 oI_1 ?_
          refine A_isub dX12_atom_68 ?_
          refine A_puti lf_X12_250 rfl rfl dX12_atom_69 ?_
          refine A_iload_n dX12_atom_72 rfl ?_
          exact A_iret rfl dX12_atom_73
    · refine A_aload_n dX12_atom_74 rfl ?_
      refine A_callVi (a_X12_isDigit (l := l)  _ ) lc_X12_282 rfl rfl (by omega) (Nat.le_of_ble_eq_true rfl) rfl dX12_atom_75 (fun q2 Mq2 hq2 => ?_)
      refine A_if_ne (tgt := 86) dX12_atom_78 (by decide) (fun _ => ?_) (fun _ => ?_)
      · refine A_aload_n dX12_atom_81 rfl ?_
        refine A_callVi (a_X12_fails (l := l)  _ ) lc_X12_253 rfl rfl (by omega) (Nat.le_of_ble_eq_true rfl) rfl dX12_atom_82 (fun q3 Mq3 hq3 => ?_)
        refine A_pop dX12_atom_85 rfl ?_
        exact (a_X12_atom_b86 (l := l) fu g_sum g_term g_atom hd hD hg_sum hg_term hg_atom   _ ).sub ⟨rfl, trivial⟩
      · exact (a_X12_atom_b86 (l := l) fu g_sum g_term g_atom hd hD hg_sum hg_term hg_atom   _ ).sub ⟨rfl, trivial⟩
  · refine A_aload_n dX12_atom_14 rfl ?_
    refine A_dup dX12_atom_15 rfl ?_
    refine A_geti lf_X12_238 rfl rfl dX12_atom_16 ?_
    refine A_iconst (v := (1 : Int32)) dX12_atom_19 oI_1 ?_
    refine A_iadd dX12_atom_20 ?_
    refine A_puti lf_X12_238 rfl rfl dX12_atom_21 ?_
    refine A_aload_n dX12_atom_24 rfl ?_
    refine A_getr lf_X12_39 rfl rfl dX12_atom_25 ?_
    refine A_iload_n dX12_atom_28 rfl ?_
    refine A_iald rfl dX12_atom_29 (fun _ => ?_)
    exact A_iret rfl dX12_atom_30
theorem a_X12_atom {l : Launch} (fu : Nat) {d dd : Nat} (g_sum : xM → Option (Int32 × xM)) (g_term : xM → Option (Int32 × xM)) (g_atom : xM → Option (Int32 × xM)) (hd : dd + 1 ≤ d) (hD : 10 ≤ d) (hg_sum : ∀ (M : xM), AM SM l yX12_sum cX12_sum 5 (some .int) dd ki [xr 0] M (g_sum  M)) (hg_term : ∀ (M : xM), AM SM l yX12_term cX12_term 5 (some .int) dd ki [xr 0] M (g_term  M)) (hg_atom : ∀ (M : xM), AM SM l yX12_atom cX12_atom 4 (some .int) dd ki [xr 0] M (g_atom  M))   (M : xM)  : AM SM l yX12_atom cX12_atom 4 (some .int) d ki [xr 0] M (F_X12_atom fu g_sum g_term g_atom   M) :=
  AM.of (L0 := [some (xr 0), none, none, none]) (w_X12_atom (l := l) fu g_sum g_term g_atom hd hD hg_sum hg_term hg_atom  M ) (by decide +kernel) rfl (Nat.le_of_ble_eq_true rfl) ⟨rfl, trivial⟩
def R_X12_sum_term_atom (fu : Nat) : Nat → (xM → Option (Int32 × xM)) × (xM → Option (Int32 × xM)) × (xM → Option (Int32 × xM))
  | 0 => (fun _ => none, fun _ => none, fun _ => none)
  | n + 1 => (fun M => F_X12_sum fu (R_X12_sum_term_atom fu n).1 (R_X12_sum_term_atom fu n).2.1 (R_X12_sum_term_atom fu n).2.2 M, fun M => F_X12_term fu (R_X12_sum_term_atom fu n).1 (R_X12_sum_term_atom fu n).2.1 (R_X12_sum_term_atom fu n).2.2 M, fun M => F_X12_atom fu (R_X12_sum_term_atom fu n).1 (R_X12_sum_term_atom fu n).2.1 (R_X12_sum_term_atom fu n).2.2 M)
theorem R_X12_sum_term_atom_ok {l : Launch} (fu : Nat) : ∀ n : Nat, (∀ (M : xM), AM SM l yX12_sum cX12_sum 5 (some .int) (10 + n) ki [xr 0] M ((R_X12_sum_term_atom fu n).1 M)) ∧ (∀ (M : xM), AM SM l yX12_term cX12_term 5 (some .int) (10 + n) ki [xr 0] M ((R_X12_sum_term_atom fu n).2.1 M)) ∧ (∀ (M : xM), AM SM l yX12_atom cX12_atom 4 (some .int) (10 + n) ki [xr 0] M ((R_X12_sum_term_atom fu n).2.2 M)) := by
  intro n
  induction n with
  | zero => exact ⟨fun _ q h => (by cases h), fun _ q h => (by cases h), fun _ q h => (by cases h)⟩
  | succ n ih =>
    obtain ⟨h0, h1, h2⟩ := ih
    exact ⟨fun M => a_X12_sum (l := l) fu _ _ _ (by omega) (by omega) h0 h1 h2 M, fun M => a_X12_term (l := l) fu _ _ _ (by omega) (by omega) h0 h1 h2 M, fun M => a_X12_atom (l := l) fu _ _ _ (by omega) (by omega) h0 h1 h2 M⟩
def T_X12_sum (fu : Nat) (M : xM) : Option (Int32 × xM) := (R_X12_sum_term_atom fu 30).1 M
theorem t_X12_sum {l : Launch} (fu : Nat) (M : xM) : AM SM l yX12_sum cX12_sum 5 (some .int) 40 ki [xr 0] M (T_X12_sum fu M) := (R_X12_sum_term_atom_ok (l := l) fu 30).1 M
def T_X12_term (fu : Nat) (M : xM) : Option (Int32 × xM) := (R_X12_sum_term_atom fu 30).2.1 M
theorem t_X12_term {l : Launch} (fu : Nat) (M : xM) : AM SM l yX12_term cX12_term 5 (some .int) 40 ki [xr 0] M (T_X12_term fu M) := (R_X12_sum_term_atom_ok (l := l) fu 30).2.1 M
def T_X12_atom (fu : Nat) (M : xM) : Option (Int32 × xM) := (R_X12_sum_term_atom fu 30).2.2 M
theorem t_X12_atom {l : Launch} (fu : Nat) (M : xM) : AM SM l yX12_atom cX12_atom 4 (some .int) 40 ki [xr 0] M (T_X12_atom fu M) := (R_X12_sum_term_atom_ok (l := l) fu 30).2.2 M
def P_X12_isSign_b18  (x0 : Int32)   (M : xM) : Int32 :=
  (1 : Int32)
set_option maxRecDepth 100000 in
set_option maxHeartbeats 4000000 in
theorem a_X12_isSign_b18 {l : Launch} (x0 : Int32)     (M : xM)  : AW SM l RX12 cX12_isSign 1 (some .boolean) 0 ki (some (P_X12_isSign_b18 x0  M, M)) 18 [none] [] M := by
  unfold P_X12_isSign_b18
  refine A_iconst (v := (1 : Int32)) dX12_isSign_18 oI_1 ?_
  refine A_goto (tgt := 23) dX12_isSign_19 (by decide) ?_
  exact A_zret' rfl (Or.inr rfl) dX12_isSign_23
def P_X12_isSign  (x0 : Int32)   (M : xM) : Int32 :=
  (if x0 = (61 : Int32) then
  P_X12_isSign_b18 x0  M
  else
  (if x0 = (60 : Int32) then
  P_X12_isSign_b18 x0  M
  else
  (if x0 = (62 : Int32) then
  P_X12_isSign_b18 x0  M
  else
  (0 : Int32))))
set_option maxRecDepth 100000 in
set_option maxHeartbeats 4000000 in
theorem w_X12_isSign {l : Launch} (x0 : Int32)     (M : xM)  : AW SM l RX12 cX12_isSign 1 (some .boolean) 0 ki (some (P_X12_isSign x0  M, M)) 0 [some (xi x0)] [] M := by
  unfold P_X12_isSign
  refine A_iload_n dX12_isSign_0 rfl ?_
  refine A_bipush (v := (61 : Int32)) dX12_isSign_1 oB_61 ?_
  refine A_icmp_eq_p (tgt := 18) dX12_isSign_3 (by decide) (fun _ => ?_) (fun _ => ?_)
  · exact (a_X12_isSign_b18 (l := l) x0   _ ).sub trivial
  · refine A_iload_n dX12_isSign_6 rfl ?_
    refine A_bipush (v := (60 : Int32)) dX12_isSign_7 oB_60 ?_
    refine A_icmp_eq_p (tgt := 18) dX12_isSign_9 (by decide) (fun _ => ?_) (fun _ => ?_)
    · exact (a_X12_isSign_b18 (l := l) x0   _ ).sub trivial
    · refine A_iload_n dX12_isSign_12 rfl ?_
      refine A_bipush (v := (62 : Int32)) dX12_isSign_13 oB_62 ?_
      refine A_icmp_ne_p (tgt := 22) dX12_isSign_15 (by decide) (fun _ => ?_) (fun _ => ?_)
      · exact (a_X12_isSign_b18 (l := l) x0   _ ).sub trivial
      · refine A_iconst (v := (0 : Int32)) dX12_isSign_22 oI_0 ?_
        exact A_zret' rfl (Or.inl rfl) dX12_isSign_23
theorem a_X12_isSign {l : Launch}  (x0 : Int32) (M : xM)  : AM SM l yX12_isSign cX12_isSign 1 (some .boolean) 0 ki [xi x0] M (some (P_X12_isSign  x0  M, M)) :=
  AM.of (L0 := [some (xi x0)]) (w_X12_isSign (l := l) x0  M ) (by decide +kernel) rfl (Nat.le_of_ble_eq_true rfl) ⟨rfl, trivial⟩
theorem zP_X12_isSign (x0 : Int32) (M : xM) : P_X12_isSign x0 M = 0 ∨ P_X12_isSign x0 M = 1 := by
  unfold P_X12_isSign
  try unfold P_X12_isSign_b18
  repeat' split
  all_goals first | decide
def F_X12_compares_b12 (fu : Nat)  (x1 : Int32) (x2 : Int32)  (s0 : Int32) (M : xM) : Option (Int32 × xM) :=
  (if (M 0 21) = (-1 : Int32) then
  (F_X12_look fu M).bind fun q1 =>
  (if (P_X12_isSign q1.1 q1.2) = 0 then
  (F_X12_fails q1.2).bind fun q3 =>
  (if q3.1 = 0 ∨ q3.1 = 1 then some (q3.1, q3.2) else none)
  else
  (T_X12_sum fu (xset q1.2 0 20 ((q1.2 0 20) + (1 : Int32)))).bind fun q2 =>
  (if q1.1 = (61 : Int32) then
  (if s0 = q2.1 then
  some ((1 : Int32), q2.2)
  else
  some ((0 : Int32), q2.2))
  else
  (if q1.1 = (60 : Int32) then
  (if q2.1 ≤ s0 then
  some ((0 : Int32), q2.2)
  else
  some ((1 : Int32), q2.2))
  else
  (if s0 ≤ q2.1 then
  some ((0 : Int32), q2.2)
  else
  some ((1 : Int32), q2.2)))))
  else
  some ((0 : Int32), M))
set_option maxRecDepth 100000 in
set_option maxHeartbeats 4000000 in
theorem a_X12_compares_b12 {l : Launch} (fu : Nat) (x1 : Int32) (x2 : Int32)    (s0 : Int32) (M : xM)  : AW SM l RX12 cX12_compares 6 (some .boolean) 41 ki (F_X12_compares_b12 fu x1 x2 s0 M) 12 [some (xr 0), none, none, none, none, none] [xi s0] M := by
  unfold F_X12_compares_b12
  refine A_istore_n dX12_compares_12 (Nat.le_of_ble_eq_true rfl) rfl ?_
  refine A_aload_n dX12_compares_13 rfl ?_
  refine A_geti lf_X12_247 rfl rfl dX12_compares_14 ?_
  refine A_iconst (v := (-1 : Int32)) dX12_compares_17 oI_m1 ?_
  refine A_icmp_eq (tgt := 23) dX12_compares_18 (by decide) (fun _ => ?_) (fun _ => ?_)
  · refine A_aload_n dX12_compares_23 rfl ?_
    refine A_callVi (a_X12_look (l := l) fu  _ ) lc_X12_257 rfl rfl (by decide) (Nat.le_of_ble_eq_true rfl) rfl dX12_compares_24 (fun q1 Mq1 hq1 => ?_)
    refine A_istore dX12_compares_27 (Nat.le_of_ble_eq_true rfl) rfl ?_
    refine A_iload dX12_compares_29 rfl ?_
    refine A_callSp (a_X12_isSign (l := l) _ _ ) lc_X12_295 rfl (by decide) (Nat.le_of_ble_eq_true rfl) rfl dX12_compares_31 ?_
    refine A_if_ne (tgt := 42) dX12_compares_34 (by decide) (fun _ => ?_) (fun _ => ?_)
    · refine A_aload_n dX12_compares_37 rfl ?_
      refine A_callVi (a_X12_fails (l := l)  _ ) lc_X12_253 rfl rfl (by decide) (Nat.le_of_ble_eq_true rfl) rfl dX12_compares_38 (fun q3 Mq3 hq3 => ?_)
      exact A_zret rfl dX12_compares_41
    · refine A_aload_n dX12_compares_42 rfl ?_
      refine A_dup dX12_compares_43 rfl ?_
      refine A_geti lf_X12_238 rfl rfl dX12_compares_44 ?_
      refine A_iconst (v := (1 : Int32)) dX12_compares_47 oI_1 ?_
      refine A_iadd dX12_compares_48 ?_
      refine A_puti lf_X12_238 rfl rfl dX12_compares_49 ?_
      refine A_aload_n dX12_compares_52 rfl ?_
      refine A_callVi (t_X12_sum (l := l) fu  _ ) lc_X12_276 rfl rfl (by decide) (Nat.le_of_ble_eq_true rfl) rfl dX12_compares_53 (fun q2 Mq2 hq2 => ?_)
      refine A_istore dX12_compares_56 (Nat.le_of_ble_eq_true rfl) rfl ?_
      refine A_iload dX12_compares_58 rfl ?_
      refine A_bipush (v := (61 : Int32)) dX12_compares_60 oB_61 ?_
      refine A_icmp_ne (tgt := 79) dX12_compares_62 (by decide) (fun _ => ?_) (fun _ => ?_)
      · refine A_iload_n dX12_compares_65 rfl ?_
        refine A_iload dX12_compares_66 rfl ?_
        refine A_icmp_ne (tgt := 75) dX12_compares_68 (by decide) (fun _ => ?_) (fun _ => ?_)
        · refine A_iconst (v := (1 : Int32)) dX12_compares_71 oI_1 ?_
          refine A_goto (tgt := 111) dX12_compares_72 (by decide) ?_
          exact A_zret' rfl (Or.inr rfl) dX12_compares_111
        · refine A_iconst (v := (0 : Int32)) dX12_compares_75 oI_0 ?_
          refine A_goto (tgt := 111) dX12_compares_76 (by decide) ?_
          exact A_zret' rfl (Or.inl rfl) dX12_compares_111
      · refine A_iload dX12_compares_79 rfl ?_
        refine A_bipush (v := (60 : Int32)) dX12_compares_81 oB_60 ?_
        refine A_icmp_ne (tgt := 100) dX12_compares_83 (by decide) (fun _ => ?_) (fun _ => ?_)
        · refine A_iload_n dX12_compares_86 rfl ?_
          refine A_iload dX12_compares_87 rfl ?_
          refine A_icmp_ge (tgt := 96) dX12_compares_89 (by decide) (fun _ => ?_) (fun _ => ?_)
          · refine A_iconst (v := (0 : Int32)) dX12_compares_96 oI_0 ?_
            refine A_goto (tgt := 111) dX12_compares_97 (by decide) ?_
            exact A_zret' rfl (Or.inl rfl) dX12_compares_111
          · refine A_iconst (v := (1 : Int32)) dX12_compares_92 oI_1 ?_
            refine A_goto (tgt := 111) dX12_compares_93 (by decide) ?_
            exact A_zret' rfl (Or.inr rfl) dX12_compares_111
        · refine A_iload_n dX12_compares_100 rfl ?_
          refine A_iload dX12_compares_101 rfl ?_
          refine A_icmp_le (tgt := 110) dX12_compares_103 (by decide) (fun _ => ?_) (fun _ => ?_)
          · refine A_iconst (v := (0 : Int32)) dX12_compares_110 oI_0 ?_
            exact A_zret' rfl (Or.inl rfl) dX12_compares_111
          · refine A_iconst (v := (1 : Int32)) dX12_compares_106 oI_1 ?_
            refine A_goto (tgt := 111) dX12_compares_107 (by decide) ?_
            exact A_zret' rfl (Or.inr rfl) dX12_compares_111
  · refine A_iconst (v := (0 : Int32)) dX12_compares_21 oI_0 ?_
    exact A_zret' rfl (Or.inl rfl) dX12_compares_22
def F_X12_compares (fu : Nat)  (x1 : Int32) (x2 : Int32)   (M : xM) : Option (Int32 × xM) :=
  (if x1 = 0 then
  (T_X12_sum fu M).bind fun q1 =>
  F_X12_compares_b12 fu x1 x2 q1.1 q1.2
  else
  F_X12_compares_b12 fu x1 x2 x2 M)
set_option maxRecDepth 100000 in
set_option maxHeartbeats 4000000 in
theorem w_X12_compares {l : Launch} (fu : Nat) (x1 : Int32) (x2 : Int32)     (M : xM)  : AW SM l RX12 cX12_compares 6 (some .boolean) 41 ki (F_X12_compares fu x1 x2  M) 0 [some (xr 0), some (xi x1), some (xi x2), none, none, none] [] M := by
  unfold F_X12_compares
  refine A_iload_n dX12_compares_0 rfl ?_
  refine A_if_eq (tgt := 8) dX12_compares_1 (by decide) (fun _ => ?_) (fun _ => ?_)
  · refine A_aload_n dX12_compares_8 rfl ?_
    refine A_callVi (t_X12_sum (l := l) fu  _ ) lc_X12_276 rfl rfl (by decide) (Nat.le_of_ble_eq_true rfl) rfl dX12_compares_9 (fun q1 Mq1 hq1 => ?_)
    exact (a_X12_compares_b12 (l := l) fu x1 x2  _ _ ).sub ⟨rfl, trivial⟩
  · refine A_iload_n dX12_compares_4 rfl ?_
    refine A_goto (tgt := 12) dX12_compares_5 (by decide) ?_
    exact (a_X12_compares_b12 (l := l) fu x1 x2  _ _ ).sub ⟨rfl, trivial⟩
theorem a_X12_compares {l : Launch} (fu : Nat)  (x1 : Int32) (x2 : Int32) (M : xM)  : AM SM l yX12_compares cX12_compares 6 (some .boolean) 41 ki [xr 0, xi x1, xi x2] M (F_X12_compares fu x1 x2  M) :=
  AM.of (L0 := [some (xr 0), some (xi x1), some (xi x2), none, none, none]) (w_X12_compares (l := l) fu x1 x2  M ) (by decide +kernel) rfl (Nat.le_of_ble_eq_true rfl) ⟨rfl, rfl, rfl, trivial⟩
def F_X12_unit (fu : Nat) (g_unit : xM → Option (Int32 × xM)) (g_part : Int32 → Int32 → xM → Option (Int32 × xM)) (g_condition : Int32 → Int32 → xM → Option (Int32 × xM))    (M : xM) : Option (Int32 × xM) :=
  (F_X12_look fu M).bind fun q1 =>
  (if q1.1 = (33 : Int32) then
  (F_X12_goesIn q1.2).bind fun q6 =>
  (if q6.1 = 0 then
  some ((0 : Int32), q6.2)
  else
  (g_unit q6.2).bind fun q7 =>
  (if q7.1 = 0 then
  some ((1 : Int32), (xset q7.2 0 22 ((q7.2 0 22) - (1 : Int32))))
  else
  some ((0 : Int32), (xset q7.2 0 22 ((q7.2 0 22) - (1 : Int32))))))
  else
  (if q1.1 = (40 : Int32) then
  (F_X12_goesIn q1.2).bind fun q3 =>
  (if q3.1 = 0 then
  some ((0 : Int32), q3.2)
  else
  (g_condition (0 : Int32) (0 : Int32) q3.2).bind fun q4 =>
  (F_X12_takes fu (41 : Int32) q4.2).bind fun q5 =>
  (if q5.1 = 0 then
  some ((0 : Int32), q5.2)
  else
  (if q4.1 = 0 ∨ q4.1 = 1 then some (q4.1, (xset q5.2 0 22 ((q5.2 0 22) - (1 : Int32)))) else none)))
  else
  (F_X12_compares fu (0 : Int32) (0 : Int32) q1.2).bind fun q2 =>
  (if q2.1 = 0 ∨ q2.1 = 1 then some (q2.1, q2.2) else none)))
set_option maxRecDepth 100000 in
set_option maxHeartbeats 4000000 in
theorem w_X12_unit {l : Launch} (fu : Nat) {d dd : Nat} (g_unit : xM → Option (Int32 × xM)) (g_part : Int32 → Int32 → xM → Option (Int32 × xM)) (g_condition : Int32 → Int32 → xM → Option (Int32 × xM)) (hd : dd + 1 ≤ d) (hD : 42 ≤ d) (hg_unit : ∀ (M : xM), AM SM l yX12_unit cX12_unit 3 (some .boolean) dd ki [xr 0] M (g_unit  M)) (hg_part : ∀ (a0 a1 : Int32) (M : xM), AM SM l yX12_part cX12_part 5 (some .boolean) dd ki [xr 0, xi a0, xi a1] M (g_part a0 a1 M)) (hg_condition : ∀ (a0 a1 : Int32) (M : xM), AM SM l yX12_condition cX12_condition 5 (some .boolean) dd ki [xr 0, xi a0, xi a1] M (g_condition a0 a1 M))      (M : xM)  : AW SM l RX12 cX12_unit 3 (some .boolean) d ki (F_X12_unit fu g_unit g_part g_condition  M) 0 [some (xr 0), none, none] [] M := by
  unfold F_X12_unit
  refine A_aload_n dX12_unit_0 rfl ?_
  refine A_callVi (a_X12_look (l := l) fu  _ ) lc_X12_257 rfl rfl (by omega) (Nat.le_of_ble_eq_true rfl) rfl dX12_unit_1 (fun q1 Mq1 hq1 => ?_)
  refine A_istore_n dX12_unit_4 (Nat.le_of_ble_eq_true rfl) rfl ?_
  refine A_iload_n dX12_unit_5 rfl ?_
  refine A_bipush (v := (33 : Int32)) dX12_unit_6 oB_33 ?_
  refine A_icmp_ne (tgt := 45) dX12_unit_8 (by decide) (fun _ => ?_) (fun _ => ?_)
  · refine A_aload_n dX12_unit_11 rfl ?_
    refine A_callVi (a_X12_goesIn (l := l)  _ ) lc_X12_273 rfl rfl (by omega) (Nat.le_of_ble_eq_true rfl) rfl dX12_unit_12 (fun q6 Mq6 hq6 => ?_)
    refine A_if_ne (tgt := 20) dX12_unit_15 (by decide) (fun _ => ?_) (fun _ => ?_)
    · refine A_iconst (v := (0 : Int32)) dX12_unit_18 oI_0 ?_
      exact A_zret' rfl (Or.inl rfl) dX12_unit_19
    · refine A_aload_n dX12_unit_20 rfl ?_
      refine A_callVi (hg_unit  _) lc_X12_298 rfl rfl hd (Nat.le_of_ble_eq_true rfl) rfl dX12_unit_21 (fun q7 Mq7 hq7 => ?_)
      refine A_istore_n dX12_unit_24 (Nat.le_of_ble_eq_true rfl) rfl ?_
      refine A_aload_n dX12_unit_25 rfl ?_
      refine A_dup dX12_unit_26 rfl ?_
      refine A_geti lf_X12_250 rfl rfl dX12_unit_27 ?_
      refine A_iconst (v := (1 : Int32)) dX12_unit_30 oI_1 ?_
      refine A_isub dX12_unit_31 ?_
      refine A_puti lf_X12_250 rfl rfl dX12_unit_32 ?_
      refine A_iload_n dX12_unit_35 rfl ?_
      refine A_if_ne (tgt := 43) dX12_unit_36 (by decide) (fun _ => ?_) (fun _ => ?_)
      · refine A_iconst (v := (1 : Int32)) dX12_unit_39 oI_1 ?_
        refine A_goto (tgt := 44) dX12_unit_40 (by decide) ?_
        exact A_zret' rfl (Or.inr rfl) dX12_unit_44
      · refine A_iconst (v := (0 : Int32)) dX12_unit_43 oI_0 ?_
        exact A_zret' rfl (Or.inl rfl) dX12_unit_44
  · refine A_iload_n dX12_unit_45 rfl ?_
    refine A_bipush (v := (40 : Int32)) dX12_unit_46 oB_40 ?_
    refine A_icmp_ne (tgt := 90) dX12_unit_48 (by decide) (fun _ => ?_) (fun _ => ?_)
    · refine A_aload_n dX12_unit_51 rfl ?_
      refine A_callVi (a_X12_goesIn (l := l)  _ ) lc_X12_273 rfl rfl (by omega) (Nat.le_of_ble_eq_true rfl) rfl dX12_unit_52 (fun q3 Mq3 hq3 => ?_)
      refine A_if_ne (tgt := 60) dX12_unit_55 (by decide) (fun _ => ?_) (fun _ => ?_)
      · refine A_iconst (v := (0 : Int32)) dX12_unit_58 oI_0 ?_
        exact A_zret' rfl (Or.inl rfl) dX12_unit_59
      · refine A_aload_n dX12_unit_60 rfl ?_
        refine A_iconst (v := (0 : Int32)) dX12_unit_61 oI_0 ?_
        refine A_iconst (v := (0 : Int32)) dX12_unit_62 oI_0 ?_
        refine A_callVi (hg_condition _ _ _) lc_X12_301 rfl rfl hd (Nat.le_of_ble_eq_true rfl) rfl dX12_unit_63 (fun q4 Mq4 hq4 => ?_)
        refine A_istore_n dX12_unit_66 (Nat.le_of_ble_eq_true rfl) rfl ?_
        refine A_aload_n dX12_unit_67 rfl ?_
        refine A_bipush (v := (41 : Int32)) dX12_unit_68 oB_41 ?_
        refine A_callVi (a_X12_takes (l := l) fu _ _ ) lc_X12_279 rfl rfl (by omega) (Nat.le_of_ble_eq_true rfl) rfl dX12_unit_70 (fun q5 Mq5 hq5 => ?_)
        refine A_if_ne (tgt := 78) dX12_unit_73 (by decide) (fun _ => ?_) (fun _ => ?_)
        · refine A_iconst (v := (0 : Int32)) dX12_unit_76 oI_0 ?_
          exact A_zret' rfl (Or.inl rfl) dX12_unit_77
        · refine A_aload_n dX12_unit_78 rfl ?_
          refine A_dup dX12_unit_79 rfl ?_
          refine A_geti lf_X12_250 rfl rfl dX12_unit_80 ?_
          refine A_iconst (v := (1 : Int32)) dX12_unit_83 oI_1 ?_
          refine A_isub dX12_unit_84 ?_
          refine A_puti lf_X12_250 rfl rfl dX12_unit_85 ?_
          refine A_iload_n dX12_unit_88 rfl ?_
          exact A_zret rfl dX12_unit_89
    · refine A_aload_n dX12_unit_90 rfl ?_
      refine A_iconst (v := (0 : Int32)) dX12_unit_91 oI_0 ?_
      refine A_iconst (v := (0 : Int32)) dX12_unit_92 oI_0 ?_
      refine A_callVi (a_X12_compares (l := l) fu _ _ _ ) lc_X12_305 rfl rfl (by omega) (Nat.le_of_ble_eq_true rfl) rfl dX12_unit_93 (fun q2 Mq2 hq2 => ?_)
      exact A_zret rfl dX12_unit_96
theorem a_X12_unit {l : Launch} (fu : Nat) {d dd : Nat} (g_unit : xM → Option (Int32 × xM)) (g_part : Int32 → Int32 → xM → Option (Int32 × xM)) (g_condition : Int32 → Int32 → xM → Option (Int32 × xM)) (hd : dd + 1 ≤ d) (hD : 42 ≤ d) (hg_unit : ∀ (M : xM), AM SM l yX12_unit cX12_unit 3 (some .boolean) dd ki [xr 0] M (g_unit  M)) (hg_part : ∀ (a0 a1 : Int32) (M : xM), AM SM l yX12_part cX12_part 5 (some .boolean) dd ki [xr 0, xi a0, xi a1] M (g_part a0 a1 M)) (hg_condition : ∀ (a0 a1 : Int32) (M : xM), AM SM l yX12_condition cX12_condition 5 (some .boolean) dd ki [xr 0, xi a0, xi a1] M (g_condition a0 a1 M))   (M : xM)  : AM SM l yX12_unit cX12_unit 3 (some .boolean) d ki [xr 0] M (F_X12_unit fu g_unit g_part g_condition   M) :=
  AM.of (L0 := [some (xr 0), none, none]) (w_X12_unit (l := l) fu g_unit g_part g_condition hd hD hg_unit hg_part hg_condition  M ) (by decide +kernel) rfl (Nat.le_of_ble_eq_true rfl) ⟨rfl, trivial⟩
def F_X12_part_b65 (fu : Nat) (g_unit : xM → Option (Int32 × xM)) (g_part : Int32 → Int32 → xM → Option (Int32 × xM)) (g_condition : Int32 → Int32 → xM → Option (Int32 × xM)) (x1 : Int32) (x2 : Int32) (k18 : Int32 → xM → Option (Int32 × xM)) (s0 : Int32) (M : xM) : Option (Int32 × xM) :=
  k18 s0 M
set_option maxRecDepth 100000 in
set_option maxHeartbeats 4000000 in
theorem a_X12_part_b65 {l : Launch} (fu : Nat) {d dd : Nat} (g_unit : xM → Option (Int32 × xM)) (g_part : Int32 → Int32 → xM → Option (Int32 × xM)) (g_condition : Int32 → Int32 → xM → Option (Int32 × xM)) (hd : dd + 1 ≤ d) (hD : 42 ≤ d) (hg_unit : ∀ (M : xM), AM SM l yX12_unit cX12_unit 3 (some .boolean) dd ki [xr 0] M (g_unit  M)) (hg_part : ∀ (a0 a1 : Int32) (M : xM), AM SM l yX12_part cX12_part 5 (some .boolean) dd ki [xr 0, xi a0, xi a1] M (g_part a0 a1 M)) (hg_condition : ∀ (a0 a1 : Int32) (M : xM), AM SM l yX12_condition cX12_condition 5 (some .boolean) dd ki [xr 0, xi a0, xi a1] M (g_condition a0 a1 M)) (x1 : Int32) (x2 : Int32)  {k18 : Int32 → xM → Option (Int32 × xM)} (hk18 : ∀ (b0 : Int32) (M : xM), AW SM l RX12 cX12_part 5 (some .boolean) d ki (k18 b0 M) 18 [some (xr 0), none, none, some (xi b0), none] [] M) (s0 : Int32) (M : xM)  : AW SM l RX12 cX12_part 5 (some .boolean) d ki (F_X12_part_b65 fu g_unit g_part g_condition x1 x2 k18 s0 M) 65 [some (xr 0), none, none, none, none] [xi s0] M := by
  unfold F_X12_part_b65
  refine A_istore_n dX12_part_65 (Nat.le_of_ble_eq_true rfl) rfl ?_
  refine A_goto (tgt := 18) dX12_part_66 (by decide) ?_
  exact (hk18 _ _).sub ⟨rfl, rfl, trivial⟩
def F_X12_part_b64 (fu : Nat) (g_unit : xM → Option (Int32 × xM)) (g_part : Int32 → Int32 → xM → Option (Int32 × xM)) (g_condition : Int32 → Int32 → xM → Option (Int32 × xM)) (x1 : Int32) (x2 : Int32) (k18 : Int32 → xM → Option (Int32 × xM))  (M : xM) : Option (Int32 × xM) :=
  F_X12_part_b65 fu g_unit g_part g_condition x1 x2 k18 (0 : Int32) M
set_option maxRecDepth 100000 in
set_option maxHeartbeats 4000000 in
theorem a_X12_part_b64 {l : Launch} (fu : Nat) {d dd : Nat} (g_unit : xM → Option (Int32 × xM)) (g_part : Int32 → Int32 → xM → Option (Int32 × xM)) (g_condition : Int32 → Int32 → xM → Option (Int32 × xM)) (hd : dd + 1 ≤ d) (hD : 42 ≤ d) (hg_unit : ∀ (M : xM), AM SM l yX12_unit cX12_unit 3 (some .boolean) dd ki [xr 0] M (g_unit  M)) (hg_part : ∀ (a0 a1 : Int32) (M : xM), AM SM l yX12_part cX12_part 5 (some .boolean) dd ki [xr 0, xi a0, xi a1] M (g_part a0 a1 M)) (hg_condition : ∀ (a0 a1 : Int32) (M : xM), AM SM l yX12_condition cX12_condition 5 (some .boolean) dd ki [xr 0, xi a0, xi a1] M (g_condition a0 a1 M)) (x1 : Int32) (x2 : Int32)  {k18 : Int32 → xM → Option (Int32 × xM)} (hk18 : ∀ (b0 : Int32) (M : xM), AW SM l RX12 cX12_part 5 (some .boolean) d ki (k18 b0 M) 18 [some (xr 0), none, none, some (xi b0), none] [] M)  (M : xM)  : AW SM l RX12 cX12_part 5 (some .boolean) d ki (F_X12_part_b64 fu g_unit g_part g_condition x1 x2 k18  M) 64 [some (xr 0), none, none, none, none] [] M := by
  unfold F_X12_part_b64
  refine A_iconst (v := (0 : Int32)) dX12_part_64 oI_0 ?_
  exact (a_X12_part_b65 (l := l) fu g_unit g_part g_condition hd hD hg_unit hg_part hg_condition x1 x2 hk18 _ _ ).sub ⟨rfl, trivial⟩
def F_X12_part_b18 (fu : Nat) (g_unit : xM → Option (Int32 × xM)) (g_part : Int32 → Int32 → xM → Option (Int32 × xM)) (g_condition : Int32 → Int32 → xM → Option (Int32 × xM)) (x1 : Int32) (x2 : Int32)  : Nat → Int32 → xM → Option (Int32 × xM)
  | 0, _, _ => none
  | n + 1, x3, M =>
    (if (M 0 21) = (-1 : Int32) then
    (F_X12_look fu M).bind fun q1 =>
    (if q1.1 = (38 : Int32) then
    (g_unit (xset q1.2 0 20 ((q1.2 0 20) + (1 : Int32)))).bind fun q2 =>
    (if x3 = 0 then
    F_X12_part_b64 fu g_unit g_part g_condition x1 x2 (F_X12_part_b18 fu g_unit g_part g_condition x1 x2 n)  q2.2
    else
    (if q2.1 = 0 then
    F_X12_part_b64 fu g_unit g_part g_condition x1 x2 (F_X12_part_b18 fu g_unit g_part g_condition x1 x2 n)  q2.2
    else
    F_X12_part_b65 fu g_unit g_part g_condition x1 x2 (F_X12_part_b18 fu g_unit g_part g_condition x1 x2 n) (1 : Int32) q2.2))
    else
    (if x3 = 0 ∨ x3 = 1 then some (x3, q1.2) else none))
    else
    (if x3 = 0 ∨ x3 = 1 then some (x3, M) else none))
set_option maxRecDepth 100000 in
set_option maxHeartbeats 4000000 in
theorem a_X12_part_b18 {l : Launch} (fu : Nat) {d dd : Nat} (g_unit : xM → Option (Int32 × xM)) (g_part : Int32 → Int32 → xM → Option (Int32 × xM)) (g_condition : Int32 → Int32 → xM → Option (Int32 × xM)) (hd : dd + 1 ≤ d) (hD : 42 ≤ d) (hg_unit : ∀ (M : xM), AM SM l yX12_unit cX12_unit 3 (some .boolean) dd ki [xr 0] M (g_unit  M)) (hg_part : ∀ (a0 a1 : Int32) (M : xM), AM SM l yX12_part cX12_part 5 (some .boolean) dd ki [xr 0, xi a0, xi a1] M (g_part a0 a1 M)) (hg_condition : ∀ (a0 a1 : Int32) (M : xM), AM SM l yX12_condition cX12_condition 5 (some .boolean) dd ki [xr 0, xi a0, xi a1] M (g_condition a0 a1 M)) (x1 : Int32) (x2 : Int32)    : ∀ (n : Nat) (x3 : Int32) (M : xM), AW SM l RX12 cX12_part 5 (some .boolean) d ki (F_X12_part_b18 fu g_unit g_part g_condition x1 x2 n x3 M) 18 [some (xr 0), none, none, some (xi x3), none] [] M := by
  intro n
  induction n with
  | zero =>
    intro x3 M
    exact AW.none
  | succ n ih =>
    intro x3 M
    rw [F_X12_part_b18]
    refine A_aload_n dX12_part_18 rfl ?_
    refine A_geti lf_X12_247 rfl rfl dX12_part_19 ?_
    refine A_iconst (v := (-1 : Int32)) dX12_part_22 oI_m1 ?_
    refine A_icmp_ne (tgt := 69) dX12_part_23 (by decide) (fun _ => ?_) (fun _ => ?_)
    · refine A_aload_n dX12_part_26 rfl ?_
      refine A_callVi (a_X12_look (l := l) fu  _ ) lc_X12_257 rfl rfl (by omega) (Nat.le_of_ble_eq_true rfl) rfl dX12_part_27 (fun q1 Mq1 hq1 => ?_)
      refine A_bipush (v := (38 : Int32)) dX12_part_30 oB_38 ?_
      refine A_icmp_ne (tgt := 69) dX12_part_32 (by decide) (fun _ => ?_) (fun _ => ?_)
      · refine A_aload_n dX12_part_35 rfl ?_
        refine A_dup dX12_part_36 rfl ?_
        refine A_geti lf_X12_238 rfl rfl dX12_part_37 ?_
        refine A_iconst (v := (1 : Int32)) dX12_part_40 oI_1 ?_
        refine A_iadd dX12_part_41 ?_
        refine A_puti lf_X12_238 rfl rfl dX12_part_42 ?_
        refine A_aload_n dX12_part_45 rfl ?_
        refine A_callVi (hg_unit  _) lc_X12_298 rfl rfl hd (Nat.le_of_ble_eq_true rfl) rfl dX12_part_46 (fun q2 Mq2 hq2 => ?_)
        refine A_istore dX12_part_49 (Nat.le_of_ble_eq_true rfl) rfl ?_
        refine A_iload_n dX12_part_51 rfl ?_
        refine A_if_eq (tgt := 64) dX12_part_52 (by decide) (fun _ => ?_) (fun _ => ?_)
        · exact (a_X12_part_b64 (l := l) fu g_unit g_part g_condition hd hD hg_unit hg_part hg_condition x1 x2 ih  _ ).sub ⟨rfl, trivial⟩
        · refine A_iload dX12_part_55 rfl ?_
          refine A_if_eq (tgt := 64) dX12_part_57 (by decide) (fun _ => ?_) (fun _ => ?_)
          · exact (a_X12_part_b64 (l := l) fu g_unit g_part g_condition hd hD hg_unit hg_part hg_condition x1 x2 ih  _ ).sub ⟨rfl, trivial⟩
          · refine A_iconst (v := (1 : Int32)) dX12_part_60 oI_1 ?_
            refine A_goto (tgt := 65) dX12_part_61 (by decide) ?_
            exact (a_X12_part_b65 (l := l) fu g_unit g_part g_condition hd hD hg_unit hg_part hg_condition x1 x2 ih _ _ ).sub ⟨rfl, trivial⟩
      · refine A_iload_n dX12_part_69 rfl ?_
        exact A_zret rfl dX12_part_70
    · refine A_iload_n dX12_part_69 rfl ?_
      exact A_zret rfl dX12_part_70
def F_X12_part_b17 (fu : Nat) (g_unit : xM → Option (Int32 × xM)) (g_part : Int32 → Int32 → xM → Option (Int32 × xM)) (g_condition : Int32 → Int32 → xM → Option (Int32 × xM)) (x1 : Int32) (x2 : Int32)  (s0 : Int32) (M : xM) : Option (Int32 × xM) :=
  F_X12_part_b18 fu g_unit g_part g_condition x1 x2 fu s0 M
set_option maxRecDepth 100000 in
set_option maxHeartbeats 4000000 in
theorem a_X12_part_b17 {l : Launch} (fu : Nat) {d dd : Nat} (g_unit : xM → Option (Int32 × xM)) (g_part : Int32 → Int32 → xM → Option (Int32 × xM)) (g_condition : Int32 → Int32 → xM → Option (Int32 × xM)) (hd : dd + 1 ≤ d) (hD : 42 ≤ d) (hg_unit : ∀ (M : xM), AM SM l yX12_unit cX12_unit 3 (some .boolean) dd ki [xr 0] M (g_unit  M)) (hg_part : ∀ (a0 a1 : Int32) (M : xM), AM SM l yX12_part cX12_part 5 (some .boolean) dd ki [xr 0, xi a0, xi a1] M (g_part a0 a1 M)) (hg_condition : ∀ (a0 a1 : Int32) (M : xM), AM SM l yX12_condition cX12_condition 5 (some .boolean) dd ki [xr 0, xi a0, xi a1] M (g_condition a0 a1 M)) (x1 : Int32) (x2 : Int32)    (s0 : Int32) (M : xM)  : AW SM l RX12 cX12_part 5 (some .boolean) d ki (F_X12_part_b17 fu g_unit g_part g_condition x1 x2 s0 M) 17 [some (xr 0), none, none, none, none] [xi s0] M := by
  unfold F_X12_part_b17
  refine A_istore_n dX12_part_17 (Nat.le_of_ble_eq_true rfl) rfl ?_
  exact (a_X12_part_b18 (l := l) fu g_unit g_part g_condition hd hD hg_unit hg_part hg_condition x1 x2  fu _ _).sub ⟨rfl, rfl, trivial⟩
def F_X12_part (fu : Nat) (g_unit : xM → Option (Int32 × xM)) (g_part : Int32 → Int32 → xM → Option (Int32 × xM)) (g_condition : Int32 → Int32 → xM → Option (Int32 × xM)) (x1 : Int32) (x2 : Int32)   (M : xM) : Option (Int32 × xM) :=
  (if x1 = 0 then
  (g_unit M).bind fun q1 =>
  F_X12_part_b17 fu g_unit g_part g_condition x1 x2 q1.1 q1.2
  else
  (F_X12_compares fu (1 : Int32) x2 M).bind fun q2 =>
  F_X12_part_b17 fu g_unit g_part g_condition x1 x2 q2.1 q2.2)
set_option maxRecDepth 100000 in
set_option maxHeartbeats 4000000 in
theorem w_X12_part {l : Launch} (fu : Nat) {d dd : Nat} (g_unit : xM → Option (Int32 × xM)) (g_part : Int32 → Int32 → xM → Option (Int32 × xM)) (g_condition : Int32 → Int32 → xM → Option (Int32 × xM)) (hd : dd + 1 ≤ d) (hD : 42 ≤ d) (hg_unit : ∀ (M : xM), AM SM l yX12_unit cX12_unit 3 (some .boolean) dd ki [xr 0] M (g_unit  M)) (hg_part : ∀ (a0 a1 : Int32) (M : xM), AM SM l yX12_part cX12_part 5 (some .boolean) dd ki [xr 0, xi a0, xi a1] M (g_part a0 a1 M)) (hg_condition : ∀ (a0 a1 : Int32) (M : xM), AM SM l yX12_condition cX12_condition 5 (some .boolean) dd ki [xr 0, xi a0, xi a1] M (g_condition a0 a1 M)) (x1 : Int32) (x2 : Int32)     (M : xM)  : AW SM l RX12 cX12_part 5 (some .boolean) d ki (F_X12_part fu g_unit g_part g_condition x1 x2  M) 0 [some (xr 0), some (xi x1), some (xi x2), none, none] [] M := by
  unfold F_X12_part
  refine A_iload_n dX12_part_0 rfl ?_
  refine A_if_eq (tgt := 13) dX12_part_1 (by decide) (fun _ => ?_) (fun _ => ?_)
  · refine A_aload_n dX12_part_13 rfl ?_
    refine A_callVi (hg_unit  _) lc_X12_298 rfl rfl hd (Nat.le_of_ble_eq_true rfl) rfl dX12_part_14 (fun q1 Mq1 hq1 => ?_)
    exact (a_X12_part_b17 (l := l) fu g_unit g_part g_condition hd hD hg_unit hg_part hg_condition x1 x2  _ _ ).sub ⟨rfl, trivial⟩
  · refine A_aload_n dX12_part_4 rfl ?_
    refine A_iconst (v := (1 : Int32)) dX12_part_5 oI_1 ?_
    refine A_iload_n dX12_part_6 rfl ?_
    refine A_callVi (a_X12_compares (l := l) fu _ _ _ ) lc_X12_305 rfl rfl (by omega) (Nat.le_of_ble_eq_true rfl) rfl dX12_part_7 (fun q2 Mq2 hq2 => ?_)
    refine A_goto (tgt := 17) dX12_part_10 (by decide) ?_
    exact (a_X12_part_b17 (l := l) fu g_unit g_part g_condition hd hD hg_unit hg_part hg_condition x1 x2  _ _ ).sub ⟨rfl, trivial⟩
theorem a_X12_part {l : Launch} (fu : Nat) {d dd : Nat} (g_unit : xM → Option (Int32 × xM)) (g_part : Int32 → Int32 → xM → Option (Int32 × xM)) (g_condition : Int32 → Int32 → xM → Option (Int32 × xM)) (hd : dd + 1 ≤ d) (hD : 42 ≤ d) (hg_unit : ∀ (M : xM), AM SM l yX12_unit cX12_unit 3 (some .boolean) dd ki [xr 0] M (g_unit  M)) (hg_part : ∀ (a0 a1 : Int32) (M : xM), AM SM l yX12_part cX12_part 5 (some .boolean) dd ki [xr 0, xi a0, xi a1] M (g_part a0 a1 M)) (hg_condition : ∀ (a0 a1 : Int32) (M : xM), AM SM l yX12_condition cX12_condition 5 (some .boolean) dd ki [xr 0, xi a0, xi a1] M (g_condition a0 a1 M))  (x1 : Int32) (x2 : Int32) (M : xM)  : AM SM l yX12_part cX12_part 5 (some .boolean) d ki [xr 0, xi x1, xi x2] M (F_X12_part fu g_unit g_part g_condition x1 x2  M) :=
  AM.of (L0 := [some (xr 0), some (xi x1), some (xi x2), none, none]) (w_X12_part (l := l) fu g_unit g_part g_condition hd hD hg_unit hg_part hg_condition x1 x2  M ) (by decide +kernel) rfl (Nat.le_of_ble_eq_true rfl) ⟨rfl, rfl, rfl, trivial⟩
def F_X12_condition_b56 (fu : Nat) (g_unit : xM → Option (Int32 × xM)) (g_part : Int32 → Int32 → xM → Option (Int32 × xM)) (g_condition : Int32 → Int32 → xM → Option (Int32 × xM)) (x1 : Int32) (x2 : Int32) (k7 : Int32 → xM → Option (Int32 × xM)) (s0 : Int32) (M : xM) : Option (Int32 × xM) :=
  k7 s0 M
set_option maxRecDepth 100000 in
set_option maxHeartbeats 4000000 in
theorem a_X12_condition_b56 {l : Launch} (fu : Nat) {d dd : Nat} (g_unit : xM → Option (Int32 × xM)) (g_part : Int32 → Int32 → xM → Option (Int32 × xM)) (g_condition : Int32 → Int32 → xM → Option (Int32 × xM)) (hd : dd + 1 ≤ d) (hD : 42 ≤ d) (hg_unit : ∀ (M : xM), AM SM l yX12_unit cX12_unit 3 (some .boolean) dd ki [xr 0] M (g_unit  M)) (hg_part : ∀ (a0 a1 : Int32) (M : xM), AM SM l yX12_part cX12_part 5 (some .boolean) dd ki [xr 0, xi a0, xi a1] M (g_part a0 a1 M)) (hg_condition : ∀ (a0 a1 : Int32) (M : xM), AM SM l yX12_condition cX12_condition 5 (some .boolean) dd ki [xr 0, xi a0, xi a1] M (g_condition a0 a1 M)) (x1 : Int32) (x2 : Int32)  {k7 : Int32 → xM → Option (Int32 × xM)} (hk7 : ∀ (b0 : Int32) (M : xM), AW SM l RX12 cX12_condition 5 (some .boolean) d ki (k7 b0 M) 7 [some (xr 0), none, none, some (xi b0), none] [] M) (s0 : Int32) (M : xM)  : AW SM l RX12 cX12_condition 5 (some .boolean) d ki (F_X12_condition_b56 fu g_unit g_part g_condition x1 x2 k7 s0 M) 56 [some (xr 0), none, none, none, none] [xi s0] M := by
  unfold F_X12_condition_b56
  refine A_istore_n dX12_condition_56 (Nat.le_of_ble_eq_true rfl) rfl ?_
  refine A_goto (tgt := 7) dX12_condition_57 (by decide) ?_
  exact (hk7 _ _).sub ⟨rfl, rfl, trivial⟩
def F_X12_condition_b51 (fu : Nat) (g_unit : xM → Option (Int32 × xM)) (g_part : Int32 → Int32 → xM → Option (Int32 × xM)) (g_condition : Int32 → Int32 → xM → Option (Int32 × xM)) (x1 : Int32) (x2 : Int32) (k7 : Int32 → xM → Option (Int32 × xM))  (M : xM) : Option (Int32 × xM) :=
  F_X12_condition_b56 fu g_unit g_part g_condition x1 x2 k7 (1 : Int32) M
set_option maxRecDepth 100000 in
set_option maxHeartbeats 4000000 in
theorem a_X12_condition_b51 {l : Launch} (fu : Nat) {d dd : Nat} (g_unit : xM → Option (Int32 × xM)) (g_part : Int32 → Int32 → xM → Option (Int32 × xM)) (g_condition : Int32 → Int32 → xM → Option (Int32 × xM)) (hd : dd + 1 ≤ d) (hD : 42 ≤ d) (hg_unit : ∀ (M : xM), AM SM l yX12_unit cX12_unit 3 (some .boolean) dd ki [xr 0] M (g_unit  M)) (hg_part : ∀ (a0 a1 : Int32) (M : xM), AM SM l yX12_part cX12_part 5 (some .boolean) dd ki [xr 0, xi a0, xi a1] M (g_part a0 a1 M)) (hg_condition : ∀ (a0 a1 : Int32) (M : xM), AM SM l yX12_condition cX12_condition 5 (some .boolean) dd ki [xr 0, xi a0, xi a1] M (g_condition a0 a1 M)) (x1 : Int32) (x2 : Int32)  {k7 : Int32 → xM → Option (Int32 × xM)} (hk7 : ∀ (b0 : Int32) (M : xM), AW SM l RX12 cX12_condition 5 (some .boolean) d ki (k7 b0 M) 7 [some (xr 0), none, none, some (xi b0), none] [] M)  (M : xM)  : AW SM l RX12 cX12_condition 5 (some .boolean) d ki (F_X12_condition_b51 fu g_unit g_part g_condition x1 x2 k7  M) 51 [some (xr 0), none, none, none, none] [] M := by
  unfold F_X12_condition_b51
  refine A_iconst (v := (1 : Int32)) dX12_condition_51 oI_1 ?_
  refine A_goto (tgt := 56) dX12_condition_52 (by decide) ?_
  exact (a_X12_condition_b56 (l := l) fu g_unit g_part g_condition hd hD hg_unit hg_part hg_condition x1 x2 hk7 _ _ ).sub ⟨rfl, trivial⟩
def F_X12_condition_b7 (fu : Nat) (g_unit : xM → Option (Int32 × xM)) (g_part : Int32 → Int32 → xM → Option (Int32 × xM)) (g_condition : Int32 → Int32 → xM → Option (Int32 × xM)) (x1 : Int32) (x2 : Int32)  : Nat → Int32 → xM → Option (Int32 × xM)
  | 0, _, _ => none
  | n + 1, x3, M =>
    (if (M 0 21) = (-1 : Int32) then
    (F_X12_look fu M).bind fun q1 =>
    (if q1.1 = (124 : Int32) then
    (g_part (0 : Int32) (0 : Int32) (xset q1.2 0 20 ((q1.2 0 20) + (1 : Int32)))).bind fun q2 =>
    (if x3 = 0 then
    (if q2.1 = 0 then
    F_X12_condition_b56 fu g_unit g_part g_condition x1 x2 (F_X12_condition_b7 fu g_unit g_part g_condition x1 x2 n) (0 : Int32) q2.2
    else
    F_X12_condition_b51 fu g_unit g_part g_condition x1 x2 (F_X12_condition_b7 fu g_unit g_part g_condition x1 x2 n)  q2.2)
    else
    F_X12_condition_b51 fu g_unit g_part g_condition x1 x2 (F_X12_condition_b7 fu g_unit g_part g_condition x1 x2 n)  q2.2)
    else
    (if x3 = 0 ∨ x3 = 1 then some (x3, q1.2) else none))
    else
    (if x3 = 0 ∨ x3 = 1 then some (x3, M) else none))
set_option maxRecDepth 100000 in
set_option maxHeartbeats 4000000 in
theorem a_X12_condition_b7 {l : Launch} (fu : Nat) {d dd : Nat} (g_unit : xM → Option (Int32 × xM)) (g_part : Int32 → Int32 → xM → Option (Int32 × xM)) (g_condition : Int32 → Int32 → xM → Option (Int32 × xM)) (hd : dd + 1 ≤ d) (hD : 42 ≤ d) (hg_unit : ∀ (M : xM), AM SM l yX12_unit cX12_unit 3 (some .boolean) dd ki [xr 0] M (g_unit  M)) (hg_part : ∀ (a0 a1 : Int32) (M : xM), AM SM l yX12_part cX12_part 5 (some .boolean) dd ki [xr 0, xi a0, xi a1] M (g_part a0 a1 M)) (hg_condition : ∀ (a0 a1 : Int32) (M : xM), AM SM l yX12_condition cX12_condition 5 (some .boolean) dd ki [xr 0, xi a0, xi a1] M (g_condition a0 a1 M)) (x1 : Int32) (x2 : Int32)    : ∀ (n : Nat) (x3 : Int32) (M : xM), AW SM l RX12 cX12_condition 5 (some .boolean) d ki (F_X12_condition_b7 fu g_unit g_part g_condition x1 x2 n x3 M) 7 [some (xr 0), none, none, some (xi x3), none] [] M := by
  intro n
  induction n with
  | zero =>
    intro x3 M
    exact AW.none
  | succ n ih =>
    intro x3 M
    rw [F_X12_condition_b7]
    refine A_aload_n dX12_condition_7 rfl ?_
    refine A_geti lf_X12_247 rfl rfl dX12_condition_8 ?_
    refine A_iconst (v := (-1 : Int32)) dX12_condition_11 oI_m1 ?_
    refine A_icmp_ne (tgt := 60) dX12_condition_12 (by decide) (fun _ => ?_) (fun _ => ?_)
    · refine A_aload_n dX12_condition_15 rfl ?_
      refine A_callVi (a_X12_look (l := l) fu  _ ) lc_X12_257 rfl rfl (by omega) (Nat.le_of_ble_eq_true rfl) rfl dX12_condition_16 (fun q1 Mq1 hq1 => ?_)
      refine A_bipush (v := (124 : Int32)) dX12_condition_19 oB_124 ?_
      refine A_icmp_ne (tgt := 60) dX12_condition_21 (by decide) (fun _ => ?_) (fun _ => ?_)
      · refine A_aload_n dX12_condition_24 rfl ?_
        refine A_dup dX12_condition_25 rfl ?_
        refine A_geti lf_X12_238 rfl rfl dX12_condition_26 ?_
        refine A_iconst (v := (1 : Int32)) dX12_condition_29 oI_1 ?_
        refine A_iadd dX12_condition_30 ?_
        refine A_puti lf_X12_238 rfl rfl dX12_condition_31 ?_
        refine A_aload_n dX12_condition_34 rfl ?_
        refine A_iconst (v := (0 : Int32)) dX12_condition_35 oI_0 ?_
        refine A_iconst (v := (0 : Int32)) dX12_condition_36 oI_0 ?_
        refine A_callVi (hg_part _ _ _) lc_X12_308 rfl rfl hd (Nat.le_of_ble_eq_true rfl) rfl dX12_condition_37 (fun q2 Mq2 hq2 => ?_)
        refine A_istore dX12_condition_40 (Nat.le_of_ble_eq_true rfl) rfl ?_
        refine A_iload_n dX12_condition_42 rfl ?_
        refine A_if_ne (tgt := 51) dX12_condition_43 (by decide) (fun _ => ?_) (fun _ => ?_)
        · refine A_iload dX12_condition_46 rfl ?_
          refine A_if_eq (tgt := 55) dX12_condition_48 (by decide) (fun _ => ?_) (fun _ => ?_)
          · refine A_iconst (v := (0 : Int32)) dX12_condition_55 oI_0 ?_
            exact (a_X12_condition_b56 (l := l) fu g_unit g_part g_condition hd hD hg_unit hg_part hg_condition x1 x2 ih _ _ ).sub ⟨rfl, trivial⟩
          · exact (a_X12_condition_b51 (l := l) fu g_unit g_part g_condition hd hD hg_unit hg_part hg_condition x1 x2 ih  _ ).sub ⟨rfl, trivial⟩
        · exact (a_X12_condition_b51 (l := l) fu g_unit g_part g_condition hd hD hg_unit hg_part hg_condition x1 x2 ih  _ ).sub ⟨rfl, trivial⟩
      · refine A_iload_n dX12_condition_60 rfl ?_
        exact A_zret rfl dX12_condition_61
    · refine A_iload_n dX12_condition_60 rfl ?_
      exact A_zret rfl dX12_condition_61
def F_X12_condition (fu : Nat) (g_unit : xM → Option (Int32 × xM)) (g_part : Int32 → Int32 → xM → Option (Int32 × xM)) (g_condition : Int32 → Int32 → xM → Option (Int32 × xM)) (x1 : Int32) (x2 : Int32)   (M : xM) : Option (Int32 × xM) :=
  (g_part x1 x2 M).bind fun q1 =>
  F_X12_condition_b7 fu g_unit g_part g_condition x1 x2 fu q1.1 q1.2
set_option maxRecDepth 100000 in
set_option maxHeartbeats 4000000 in
theorem w_X12_condition {l : Launch} (fu : Nat) {d dd : Nat} (g_unit : xM → Option (Int32 × xM)) (g_part : Int32 → Int32 → xM → Option (Int32 × xM)) (g_condition : Int32 → Int32 → xM → Option (Int32 × xM)) (hd : dd + 1 ≤ d) (hD : 42 ≤ d) (hg_unit : ∀ (M : xM), AM SM l yX12_unit cX12_unit 3 (some .boolean) dd ki [xr 0] M (g_unit  M)) (hg_part : ∀ (a0 a1 : Int32) (M : xM), AM SM l yX12_part cX12_part 5 (some .boolean) dd ki [xr 0, xi a0, xi a1] M (g_part a0 a1 M)) (hg_condition : ∀ (a0 a1 : Int32) (M : xM), AM SM l yX12_condition cX12_condition 5 (some .boolean) dd ki [xr 0, xi a0, xi a1] M (g_condition a0 a1 M)) (x1 : Int32) (x2 : Int32)     (M : xM)  : AW SM l RX12 cX12_condition 5 (some .boolean) d ki (F_X12_condition fu g_unit g_part g_condition x1 x2  M) 0 [some (xr 0), some (xi x1), some (xi x2), none, none] [] M := by
  unfold F_X12_condition
  refine A_aload_n dX12_condition_0 rfl ?_
  refine A_iload_n dX12_condition_1 rfl ?_
  refine A_iload_n dX12_condition_2 rfl ?_
  refine A_callVi (hg_part _ _ _) lc_X12_308 rfl rfl hd (Nat.le_of_ble_eq_true rfl) rfl dX12_condition_3 (fun q1 Mq1 hq1 => ?_)
  refine A_istore_n dX12_condition_6 (Nat.le_of_ble_eq_true rfl) rfl ?_
  exact (a_X12_condition_b7 (l := l) fu g_unit g_part g_condition hd hD hg_unit hg_part hg_condition x1 x2  fu _ _).sub ⟨rfl, rfl, trivial⟩
theorem a_X12_condition {l : Launch} (fu : Nat) {d dd : Nat} (g_unit : xM → Option (Int32 × xM)) (g_part : Int32 → Int32 → xM → Option (Int32 × xM)) (g_condition : Int32 → Int32 → xM → Option (Int32 × xM)) (hd : dd + 1 ≤ d) (hD : 42 ≤ d) (hg_unit : ∀ (M : xM), AM SM l yX12_unit cX12_unit 3 (some .boolean) dd ki [xr 0] M (g_unit  M)) (hg_part : ∀ (a0 a1 : Int32) (M : xM), AM SM l yX12_part cX12_part 5 (some .boolean) dd ki [xr 0, xi a0, xi a1] M (g_part a0 a1 M)) (hg_condition : ∀ (a0 a1 : Int32) (M : xM), AM SM l yX12_condition cX12_condition 5 (some .boolean) dd ki [xr 0, xi a0, xi a1] M (g_condition a0 a1 M))  (x1 : Int32) (x2 : Int32) (M : xM)  : AM SM l yX12_condition cX12_condition 5 (some .boolean) d ki [xr 0, xi x1, xi x2] M (F_X12_condition fu g_unit g_part g_condition x1 x2  M) :=
  AM.of (L0 := [some (xr 0), some (xi x1), some (xi x2), none, none]) (w_X12_condition (l := l) fu g_unit g_part g_condition hd hD hg_unit hg_part hg_condition x1 x2  M ) (by decide +kernel) rfl (Nat.le_of_ble_eq_true rfl) ⟨rfl, rfl, rfl, trivial⟩
def R_X12_unit_part_condition (fu : Nat) : Nat → (xM → Option (Int32 × xM)) × (Int32 → Int32 → xM → Option (Int32 × xM)) × (Int32 → Int32 → xM → Option (Int32 × xM))
  | 0 => (fun _ => none, fun _ _ _ => none, fun _ _ _ => none)
  | n + 1 => (fun M => F_X12_unit fu (R_X12_unit_part_condition fu n).1 (R_X12_unit_part_condition fu n).2.1 (R_X12_unit_part_condition fu n).2.2 M, fun a0 a1 M => F_X12_part fu (R_X12_unit_part_condition fu n).1 (R_X12_unit_part_condition fu n).2.1 (R_X12_unit_part_condition fu n).2.2 a0 a1 M, fun a0 a1 M => F_X12_condition fu (R_X12_unit_part_condition fu n).1 (R_X12_unit_part_condition fu n).2.1 (R_X12_unit_part_condition fu n).2.2 a0 a1 M)
theorem R_X12_unit_part_condition_ok {l : Launch} (fu : Nat) : ∀ n : Nat, (∀ (M : xM), AM SM l yX12_unit cX12_unit 3 (some .boolean) (42 + n) ki [xr 0] M ((R_X12_unit_part_condition fu n).1 M)) ∧ (∀ (a0 : Int32) (a1 : Int32) (M : xM), AM SM l yX12_part cX12_part 5 (some .boolean) (42 + n) ki [xr 0, xi a0, xi a1] M ((R_X12_unit_part_condition fu n).2.1 a0 a1 M)) ∧ (∀ (a0 : Int32) (a1 : Int32) (M : xM), AM SM l yX12_condition cX12_condition 5 (some .boolean) (42 + n) ki [xr 0, xi a0, xi a1] M ((R_X12_unit_part_condition fu n).2.2 a0 a1 M)) := by
  intro n
  induction n with
  | zero => exact ⟨fun _ q h => (by cases h), fun _ _ _ q h => (by cases h), fun _ _ _ q h => (by cases h)⟩
  | succ n ih =>
    obtain ⟨h0, h1, h2⟩ := ih
    exact ⟨fun M => a_X12_unit (l := l) fu _ _ _ (by omega) (by omega) h0 h1 h2 M, fun a0 a1 M => a_X12_part (l := l) fu _ _ _ (by omega) (by omega) h0 h1 h2 a0 a1 M, fun a0 a1 M => a_X12_condition (l := l) fu _ _ _ (by omega) (by omega) h0 h1 h2 a0 a1 M⟩
def T_X12_unit (fu : Nat) (M : xM) : Option (Int32 × xM) := (R_X12_unit_part_condition fu 30).1 M
theorem t_X12_unit {l : Launch} (fu : Nat) (M : xM) : AM SM l yX12_unit cX12_unit 3 (some .boolean) 72 ki [xr 0] M (T_X12_unit fu M) := (R_X12_unit_part_condition_ok (l := l) fu 30).1 M
def T_X12_part (fu : Nat) (a0 : Int32) (a1 : Int32) (M : xM) : Option (Int32 × xM) := (R_X12_unit_part_condition fu 30).2.1 a0 a1 M
theorem t_X12_part {l : Launch} (fu : Nat) (a0 : Int32) (a1 : Int32) (M : xM) : AM SM l yX12_part cX12_part 5 (some .boolean) 72 ki [xr 0, xi a0, xi a1] M (T_X12_part fu a0 a1 M) := (R_X12_unit_part_condition_ok (l := l) fu 30).2.1 a0 a1 M
def T_X12_condition (fu : Nat) (a0 : Int32) (a1 : Int32) (M : xM) : Option (Int32 × xM) := (R_X12_unit_part_condition fu 30).2.2 a0 a1 M
theorem t_X12_condition {l : Launch} (fu : Nat) (a0 : Int32) (a1 : Int32) (M : xM) : AM SM l yX12_condition cX12_condition 5 (some .boolean) 72 ki [xr 0, xi a0, xi a1] M (T_X12_condition fu a0 a1 M) := (R_X12_unit_part_condition_ok (l := l) fu 30).2.2 a0 a1 M
def F_X12_clause_b134 (fu : Nat)    (x1 : Int32) (x2 : Int32) (x3 : Int32) (M : xM) : Option (xM) :=
  (if (M 0 21) = (-1 : Int32) then
  (if (M 0 27) = 0 then
  (if x1 = (M 0 23) then
  (if x2 = 0 then
  some M
  else
  some (xset (xset M 0 27 (1 : Int32)) 0 24 x3))
  else
  some M)
  else
  some M)
  else
  some M)
set_option maxRecDepth 100000 in
set_option maxHeartbeats 4000000 in
theorem a_X12_clause_b134 {l : Launch} (fu : Nat)     (x1 : Int32) (x2 : Int32) (x3 : Int32) (M : xM)  : AW SM l RX12 cX12_clause 5 none 73 kv (F_X12_clause_b134 fu x1 x2 x3 M) 134 [some (xr 0), some (xi x1), some (xi x2), some (xi x3), none] [] M := by
  unfold F_X12_clause_b134
  refine A_aload_n dX12_clause_134 rfl ?_
  refine A_geti lf_X12_247 rfl rfl dX12_clause_135 ?_
  refine A_iconst (v := (-1 : Int32)) dX12_clause_138 oI_m1 ?_
  refine A_icmp_ne (tgt := 161) dX12_clause_139 (by decide) (fun _ => ?_) (fun _ => ?_)
  · refine A_aload_n dX12_clause_142 rfl ?_
    refine A_geti lf_X12_311 rfl rfl dX12_clause_143 ?_
    refine A_if_ne (tgt := 161) dX12_clause_146 (by decide) (fun _ => ?_) (fun _ => ?_)
    · refine A_iload_n dX12_clause_149 rfl ?_
      refine A_aload_n dX12_clause_150 rfl ?_
      refine A_geti lf_X12_315 rfl rfl dX12_clause_151 ?_
      refine A_icmp_ne (tgt := 161) dX12_clause_154 (by decide) (fun _ => ?_) (fun _ => ?_)
      · refine A_iload_n dX12_clause_157 rfl ?_
        refine A_if_ne (tgt := 162) dX12_clause_158 (by decide) (fun _ => ?_) (fun _ => ?_)
        · exact A_vret rfl dX12_clause_161
        · refine A_aload_n dX12_clause_162 rfl ?_
          refine A_iconst (v := (1 : Int32)) dX12_clause_163 oI_1 ?_
          refine A_putz lf_X12_311 rfl rfl (Or.inr rfl) dX12_clause_164 ?_
          refine A_aload_n dX12_clause_167 rfl ?_
          refine A_iload_n dX12_clause_168 rfl ?_
          refine A_puti lf_X12_318 rfl rfl dX12_clause_169 ?_
          exact A_vret rfl dX12_clause_172
      · exact A_vret rfl dX12_clause_161
    · exact A_vret rfl dX12_clause_161
  · exact A_vret rfl dX12_clause_161
def F_X12_clause_b64 (fu : Nat)    (x1 : Int32) (M : xM) : Option (xM) :=
  (T_X12_condition fu (0 : Int32) (0 : Int32) M).bind fun q1 =>
  (F_X12_takes fu (63 : Int32) q1.2).bind fun q2 =>
  (if q2.1 = 0 then
  some q2.2
  else
  (T_X12_sum fu q2.2).bind fun q3 =>
  F_X12_clause_b134 fu x1 q1.1 q3.1 q3.2)
set_option maxRecDepth 100000 in
set_option maxHeartbeats 4000000 in
theorem a_X12_clause_b64 {l : Launch} (fu : Nat)     (x1 : Int32) (M : xM)  : AW SM l RX12 cX12_clause 5 none 73 kv (F_X12_clause_b64 fu x1 M) 64 [some (xr 0), some (xi x1), none, none, none] [] M := by
  unfold F_X12_clause_b64
  refine A_aload_n dX12_clause_64 rfl ?_
  refine A_iconst (v := (0 : Int32)) dX12_clause_65 oI_0 ?_
  refine A_iconst (v := (0 : Int32)) dX12_clause_66 oI_0 ?_
  refine A_callVi (t_X12_condition (l := l) fu _ _ _ ) lc_X12_301 rfl rfl (by decide) (Nat.le_of_ble_eq_true rfl) rfl dX12_clause_67 (fun q1 Mq1 hq1 => ?_)
  refine A_istore_n dX12_clause_70 (Nat.le_of_ble_eq_true rfl) rfl ?_
  refine A_aload_n dX12_clause_71 rfl ?_
  refine A_bipush (v := (63 : Int32)) dX12_clause_72 oB_63 ?_
  refine A_callVi (a_X12_takes (l := l) fu _ _ ) lc_X12_279 rfl rfl (by decide) (Nat.le_of_ble_eq_true rfl) rfl dX12_clause_74 (fun q2 Mq2 hq2 => ?_)
  refine A_if_ne (tgt := 81) dX12_clause_77 (by decide) (fun _ => ?_) (fun _ => ?_)
  · exact A_vret rfl dX12_clause_80
  · refine A_aload_n dX12_clause_81 rfl ?_
    refine A_callVi (t_X12_sum (l := l) fu  _ ) lc_X12_276 rfl rfl (by decide) (Nat.le_of_ble_eq_true rfl) rfl dX12_clause_82 (fun q3 Mq3 hq3 => ?_)
    refine A_istore_n dX12_clause_85 (Nat.le_of_ble_eq_true rfl) rfl ?_
    refine A_goto (tgt := 134) dX12_clause_86 (by decide) ?_
    exact (a_X12_clause_b134 (l := l) fu  _ _ _ _ ).sub ⟨rfl, rfl, rfl, rfl, trivial⟩
def F_X12_clause (fu : Nat)     (M : xM) : Option (xM) :=
  (F_X12_look fu M).bind fun q1 =>
  (if (P_X12_isAmong 1000 q1.1 q1.2) = 0 then
  (F_X12_fails q1.2).bind fun q9 =>
  some q9.2
  else
  (F_X12_takes fu (58 : Int32) (xset q1.2 0 20 ((q1.2 0 20) + (1 : Int32)))).bind fun q2 =>
  (if q2.1 = 0 then
  some q2.2
  else
  (F_X12_look fu q2.2).bind fun q3 =>
  (if q3.1 = (33 : Int32) then
  F_X12_clause_b64 fu q1.1 q3.2
  else
  (if q3.1 = (40 : Int32) then
  F_X12_clause_b64 fu q1.1 q3.2
  else
  (T_X12_sum fu q3.2).bind fun q4 =>
  (if (q4.2 0 21) = (-1 : Int32) then
  (F_X12_look fu q4.2).bind fun q5 =>
  (if (P_X12_isSign q5.1 q5.2) = 0 then
  F_X12_clause_b134 fu q1.1 (1 : Int32) q4.1 q5.2
  else
  (T_X12_condition fu (1 : Int32) q4.1 q5.2).bind fun q6 =>
  (F_X12_takes fu (63 : Int32) q6.2).bind fun q7 =>
  (if q7.1 = 0 then
  some q7.2
  else
  (T_X12_sum fu q7.2).bind fun q8 =>
  F_X12_clause_b134 fu q1.1 q6.1 q8.1 q8.2))
  else
  F_X12_clause_b134 fu q1.1 (1 : Int32) q4.1 q4.2)))))
set_option maxRecDepth 100000 in
set_option maxHeartbeats 4000000 in
theorem w_X12_clause {l : Launch} (fu : Nat)      (M : xM)  : AW SM l RX12 cX12_clause 5 none 73 kv (F_X12_clause fu  M) 0 [some (xr 0), none, none, none, none] [] M := by
  unfold F_X12_clause
  refine A_aload_n dX12_clause_0 rfl ?_
  refine A_callVi (a_X12_look (l := l) fu  _ ) lc_X12_257 rfl rfl (by decide) (Nat.le_of_ble_eq_true rfl) rfl dX12_clause_1 (fun q1 Mq1 hq1 => ?_)
  refine A_istore_n dX12_clause_4 (Nat.le_of_ble_eq_true rfl) rfl ?_
  refine A_ldcS0 dX12_clause_5 ?_
  refine A_iload_n dX12_clause_7 rfl ?_
  refine A_callSp (a_X12_isAmong (l := l) _ _ _ ) lc_X12_269 rfl (by decide) (Nat.le_of_ble_eq_true rfl) rfl dX12_clause_8 ?_
  refine A_if_ne (tgt := 20) dX12_clause_11 (by decide) (fun _ => ?_) (fun _ => ?_)
  · refine A_aload_n dX12_clause_14 rfl ?_
    refine A_callVi (a_X12_fails (l := l)  _ ) lc_X12_253 rfl rfl (by decide) (Nat.le_of_ble_eq_true rfl) rfl dX12_clause_15 (fun q9 Mq9 hq9 => ?_)
    refine A_pop dX12_clause_18 rfl ?_
    exact A_vret rfl dX12_clause_19
  · refine A_aload_n dX12_clause_20 rfl ?_
    refine A_dup dX12_clause_21 rfl ?_
    refine A_geti lf_X12_238 rfl rfl dX12_clause_22 ?_
    refine A_iconst (v := (1 : Int32)) dX12_clause_25 oI_1 ?_
    refine A_iadd dX12_clause_26 ?_
    refine A_puti lf_X12_238 rfl rfl dX12_clause_27 ?_
    refine A_aload_n dX12_clause_30 rfl ?_
    refine A_bipush (v := (58 : Int32)) dX12_clause_31 oB_58 ?_
    refine A_callVi (a_X12_takes (l := l) fu _ _ ) lc_X12_279 rfl rfl (by decide) (Nat.le_of_ble_eq_true rfl) rfl dX12_clause_33 (fun q2 Mq2 hq2 => ?_)
    refine A_if_ne (tgt := 40) dX12_clause_36 (by decide) (fun _ => ?_) (fun _ => ?_)
    · exact A_vret rfl dX12_clause_39
    · refine A_iconst (v := (1 : Int32)) dX12_clause_40 oI_1 ?_
      refine A_istore_n dX12_clause_41 (Nat.le_of_ble_eq_true rfl) rfl ?_
      refine A_iconst (v := (0 : Int32)) dX12_clause_42 oI_0 ?_
      refine A_istore_n dX12_clause_43 (Nat.le_of_ble_eq_true rfl) rfl ?_
      refine A_aload_n dX12_clause_44 rfl ?_
      refine A_callVi (a_X12_look (l := l) fu  _ ) lc_X12_257 rfl rfl (by decide) (Nat.le_of_ble_eq_true rfl) rfl dX12_clause_45 (fun q3 Mq3 hq3 => ?_)
      refine A_istore dX12_clause_48 (Nat.le_of_ble_eq_true rfl) rfl ?_
      refine A_iload dX12_clause_50 rfl ?_
      refine A_bipush (v := (33 : Int32)) dX12_clause_52 oB_33 ?_
      refine A_icmp_eq (tgt := 64) dX12_clause_54 (by decide) (fun _ => ?_) (fun _ => ?_)
      · exact (a_X12_clause_b64 (l := l) fu  _ _ ).sub ⟨rfl, rfl, trivial⟩
      · refine A_iload dX12_clause_57 rfl ?_
        refine A_bipush (v := (40 : Int32)) dX12_clause_59 oB_40 ?_
        refine A_icmp_ne (tgt := 89) dX12_clause_61 (by decide) (fun _ => ?_) (fun _ => ?_)
        · exact (a_X12_clause_b64 (l := l) fu  _ _ ).sub ⟨rfl, rfl, trivial⟩
        · refine A_aload_n dX12_clause_89 rfl ?_
          refine A_callVi (t_X12_sum (l := l) fu  _ ) lc_X12_276 rfl rfl (by decide) (Nat.le_of_ble_eq_true rfl) rfl dX12_clause_90 (fun q4 Mq4 hq4 => ?_)
          refine A_istore_n dX12_clause_93 (Nat.le_of_ble_eq_true rfl) rfl ?_
          refine A_aload_n dX12_clause_94 rfl ?_
          refine A_geti lf_X12_247 rfl rfl dX12_clause_95 ?_
          refine A_iconst (v := (-1 : Int32)) dX12_clause_98 oI_m1 ?_
          refine A_icmp_ne (tgt := 134) dX12_clause_99 (by decide) (fun _ => ?_) (fun _ => ?_)
          · refine A_aload_n dX12_clause_102 rfl ?_
            refine A_callVi (a_X12_look (l := l) fu  _ ) lc_X12_257 rfl rfl (by decide) (Nat.le_of_ble_eq_true rfl) rfl dX12_clause_103 (fun q5 Mq5 hq5 => ?_)
            refine A_callSp (a_X12_isSign (l := l) _ _ ) lc_X12_295 rfl (by decide) (Nat.le_of_ble_eq_true rfl) rfl dX12_clause_106 ?_
            refine A_if_eq (tgt := 134) dX12_clause_109 (by decide) (fun _ => ?_) (fun _ => ?_)
            · exact (a_X12_clause_b134 (l := l) fu  _ _ _ _ ).sub ⟨rfl, rfl, rfl, rfl, trivial⟩
            · refine A_aload_n dX12_clause_112 rfl ?_
              refine A_iconst (v := (1 : Int32)) dX12_clause_113 oI_1 ?_
              refine A_iload_n dX12_clause_114 rfl ?_
              refine A_callVi (t_X12_condition (l := l) fu _ _ _ ) lc_X12_301 rfl rfl (by decide) (Nat.le_of_ble_eq_true rfl) rfl dX12_clause_115 (fun q6 Mq6 hq6 => ?_)
              refine A_istore_n dX12_clause_118 (Nat.le_of_ble_eq_true rfl) rfl ?_
              refine A_aload_n dX12_clause_119 rfl ?_
              refine A_bipush (v := (63 : Int32)) dX12_clause_120 oB_63 ?_
              refine A_callVi (a_X12_takes (l := l) fu _ _ ) lc_X12_279 rfl rfl (by decide) (Nat.le_of_ble_eq_true rfl) rfl dX12_clause_122 (fun q7 Mq7 hq7 => ?_)
              refine A_if_ne (tgt := 129) dX12_clause_125 (by decide) (fun _ => ?_) (fun _ => ?_)
              · exact A_vret rfl dX12_clause_128
              · refine A_aload_n dX12_clause_129 rfl ?_
                refine A_callVi (t_X12_sum (l := l) fu  _ ) lc_X12_276 rfl rfl (by decide) (Nat.le_of_ble_eq_true rfl) rfl dX12_clause_130 (fun q8 Mq8 hq8 => ?_)
                refine A_istore_n dX12_clause_133 (Nat.le_of_ble_eq_true rfl) rfl ?_
                exact (a_X12_clause_b134 (l := l) fu  _ _ _ _ ).sub ⟨rfl, rfl, rfl, rfl, trivial⟩
          · exact (a_X12_clause_b134 (l := l) fu  _ _ _ _ ).sub ⟨rfl, rfl, rfl, rfl, trivial⟩
theorem a_X12_clause {l : Launch} (fu : Nat)   (M : xM)  : AM SM l yX12_clause cX12_clause 5 none 73 kv [xr 0] M (F_X12_clause fu   M) :=
  AM.of (L0 := [some (xr 0), none, none, none, none]) (w_X12_clause (l := l) fu  M ) (by decide +kernel) rfl (Nat.le_of_ble_eq_true rfl) ⟨rfl, trivial⟩
def F_X12_goThrough_b84 (fu : Nat)  (r1 n1 : Nat) (x2 : Int32) (x3 : Int32)   (M : xM) : Option (xM) :=
  (if (M 0 21) = (-1 : Int32) then
  (F_X12_look fu M).bind fun q1 =>
  (if q1.1 = (-1 : Int32) then
  some q1.2
  else
  (F_X12_fails q1.2).bind fun q2 =>
  some q2.2)
  else
  some M)
set_option maxRecDepth 100000 in
set_option maxHeartbeats 4000000 in
theorem a_X12_goThrough_b84 {l : Launch} (fu : Nat) (r1 n1 : Nat) (x2 : Int32) (x3 : Int32) (h1 : SM[r1]? = some (.inl (1, n1)))    (M : xM)  : AW SM l RX12 cX12_goThrough 4 none 74 kv (F_X12_goThrough_b84 fu r1 n1 x2 x3  M) 84 [some (xr 0), none, none, none] [] M := by
  unfold F_X12_goThrough_b84
  refine A_aload_n dX12_goThrough_84 rfl ?_
  refine A_geti lf_X12_247 rfl rfl dX12_goThrough_85 ?_
  refine A_iconst (v := (-1 : Int32)) dX12_goThrough_88 oI_m1 ?_
  refine A_icmp_ne (tgt := 105) dX12_goThrough_89 (by decide) (fun _ => ?_) (fun _ => ?_)
  · refine A_aload_n dX12_goThrough_92 rfl ?_
    refine A_callVi (a_X12_look (l := l) fu  _ ) lc_X12_257 rfl rfl (by decide) (Nat.le_of_ble_eq_true rfl) rfl dX12_goThrough_93 (fun q1 Mq1 hq1 => ?_)
    refine A_iconst (v := (-1 : Int32)) dX12_goThrough_96 oI_m1 ?_
    refine A_icmp_eq (tgt := 105) dX12_goThrough_97 (by decide) (fun _ => ?_) (fun _ => ?_)
    · exact A_vret rfl dX12_goThrough_105
    · refine A_aload_n dX12_goThrough_100 rfl ?_
      refine A_callVi (a_X12_fails (l := l)  _ ) lc_X12_253 rfl rfl (by decide) (Nat.le_of_ble_eq_true rfl) rfl dX12_goThrough_101 (fun q2 Mq2 hq2 => ?_)
      refine A_pop dX12_goThrough_104 rfl ?_
      exact A_vret rfl dX12_goThrough_105
  · exact A_vret rfl dX12_goThrough_105
def F_X12_goThrough_b50 (fu : Nat)  (r1 n1 : Nat) (x2 : Int32) (x3 : Int32)  : Nat → xM → Option (xM)
  | 0, _ => none
  | n + 1, M =>
    (if (M 0 21) = (-1 : Int32) then
    (F_X12_look fu M).bind fun q1 =>
    (if q1.1 = (59 : Int32) then
    (F_X12_clause fu (xset q1.2 0 20 ((q1.2 0 20) + (1 : Int32)))).bind fun q2 =>
    F_X12_goThrough_b50 fu r1 n1 x2 x3 n  q2
    else
    F_X12_goThrough_b84 fu r1 n1 x2 x3  q1.2)
    else
    F_X12_goThrough_b84 fu r1 n1 x2 x3  M)
set_option maxRecDepth 100000 in
set_option maxHeartbeats 4000000 in
theorem a_X12_goThrough_b50 {l : Launch} (fu : Nat) (r1 n1 : Nat) (x2 : Int32) (x3 : Int32) (h1 : SM[r1]? = some (.inl (1, n1)))   : ∀ (n : Nat)  (M : xM), AW SM l RX12 cX12_goThrough 4 none 74 kv (F_X12_goThrough_b50 fu r1 n1 x2 x3 n  M) 50 [some (xr 0), none, none, none] [] M := by
  intro n
  induction n with
  | zero =>
    intro  M
    exact AW.none
  | succ n ih =>
    intro  M
    rw [F_X12_goThrough_b50]
    refine A_aload_n dX12_goThrough_50 rfl ?_
    refine A_geti lf_X12_247 rfl rfl dX12_goThrough_51 ?_
    refine A_iconst (v := (-1 : Int32)) dX12_goThrough_54 oI_m1 ?_
    refine A_icmp_ne (tgt := 84) dX12_goThrough_55 (by decide) (fun _ => ?_) (fun _ => ?_)
    · refine A_aload_n dX12_goThrough_58 rfl ?_
      refine A_callVi (a_X12_look (l := l) fu  _ ) lc_X12_257 rfl rfl (by decide) (Nat.le_of_ble_eq_true rfl) rfl dX12_goThrough_59 (fun q1 Mq1 hq1 => ?_)
      refine A_bipush (v := (59 : Int32)) dX12_goThrough_62 oB_59 ?_
      refine A_icmp_ne (tgt := 84) dX12_goThrough_64 (by decide) (fun _ => ?_) (fun _ => ?_)
      · refine A_aload_n dX12_goThrough_67 rfl ?_
        refine A_dup dX12_goThrough_68 rfl ?_
        refine A_geti lf_X12_238 rfl rfl dX12_goThrough_69 ?_
        refine A_iconst (v := (1 : Int32)) dX12_goThrough_72 oI_1 ?_
        refine A_iadd dX12_goThrough_73 ?_
        refine A_puti lf_X12_238 rfl rfl dX12_goThrough_74 ?_
        refine A_aload_n dX12_goThrough_77 rfl ?_
        refine A_callVv (a_X12_clause (l := l) fu  _ ) lc_X12_321 rfl rfl (by decide) (Nat.le_of_ble_eq_true rfl) rfl dX12_goThrough_78 (fun q2 hq2 => ?_)
        refine A_goto (tgt := 50) dX12_goThrough_81 (by decide) ?_
        exact (ih  _).sub ⟨rfl, trivial⟩
      · exact (a_X12_goThrough_b84 (l := l) fu r1 n1 x2 x3 h1   _ ).sub ⟨rfl, trivial⟩
    · exact (a_X12_goThrough_b84 (l := l) fu r1 n1 x2 x3 h1   _ ).sub ⟨rfl, trivial⟩
def F_X12_goThrough (fu : Nat)  (r1 n1 : Nat) (x2 : Int32) (x3 : Int32)   (M : xM) : Option (xM) :=
  (F_X12_clause fu (xset (xset (xset (xset (xset (xset (xset (xset (xset M 0 14 (nI r1)) 0 18 x2) 0 19 x3) 0 23 (121 : Int32)) 0 20 (0 : Int32)) 0 21 (-1 : Int32)) 0 22 (0 : Int32)) 0 27 (0 : Int32)) 0 24 (0 : Int32))).bind fun q1 =>
  F_X12_goThrough_b50 fu r1 n1 x2 x3 fu  q1
set_option maxRecDepth 100000 in
set_option maxHeartbeats 4000000 in
theorem w_X12_goThrough {l : Launch} (fu : Nat) (r1 n1 : Nat) (x2 : Int32) (x3 : Int32) (h1 : SM[r1]? = some (.inl (1, n1)))    (M : xM)  : AW SM l RX12 cX12_goThrough 4 none 74 kv (F_X12_goThrough fu r1 n1 x2 x3  M) 0 [some (xr 0), some (xr r1), some (xi x2), some (xi x3)] [] M := by
  unfold F_X12_goThrough
  refine A_aload_n dX12_goThrough_0 rfl ?_
  refine A_aload_n dX12_goThrough_1 rfl ?_
  refine A_putw' lf_X12_42 rfl rfl h1 (by decide) dX12_goThrough_2 ?_
  refine A_aload_n dX12_goThrough_5 rfl ?_
  refine A_iload_n dX12_goThrough_6 rfl ?_
  refine A_puti lf_X12_244 rfl rfl dX12_goThrough_7 ?_
  refine A_aload_n dX12_goThrough_10 rfl ?_
  refine A_iload_n dX12_goThrough_11 rfl ?_
  refine A_puti lf_X12_241 rfl rfl dX12_goThrough_12 ?_
  refine A_aload_n dX12_goThrough_15 rfl ?_
  refine A_bipush (v := (121 : Int32)) dX12_goThrough_16 oB_121 ?_
  refine A_puti lf_X12_315 rfl rfl dX12_goThrough_18 ?_
  refine A_aload_n dX12_goThrough_21 rfl ?_
  refine A_iconst (v := (0 : Int32)) dX12_goThrough_22 oI_0 ?_
  refine A_puti lf_X12_238 rfl rfl dX12_goThrough_23 ?_
  refine A_aload_n dX12_goThrough_26 rfl ?_
  refine A_iconst (v := (-1 : Int32)) dX12_goThrough_27 oI_m1 ?_
  refine A_puti lf_X12_247 rfl rfl dX12_goThrough_28 ?_
  refine A_aload_n dX12_goThrough_31 rfl ?_
  refine A_iconst (v := (0 : Int32)) dX12_goThrough_32 oI_0 ?_
  refine A_puti lf_X12_250 rfl rfl dX12_goThrough_33 ?_
  refine A_aload_n dX12_goThrough_36 rfl ?_
  refine A_iconst (v := (0 : Int32)) dX12_goThrough_37 oI_0 ?_
  refine A_putz lf_X12_311 rfl rfl (Or.inl rfl) dX12_goThrough_38 ?_
  refine A_aload_n dX12_goThrough_41 rfl ?_
  refine A_iconst (v := (0 : Int32)) dX12_goThrough_42 oI_0 ?_
  refine A_puti lf_X12_318 rfl rfl dX12_goThrough_43 ?_
  refine A_aload_n dX12_goThrough_46 rfl ?_
  refine A_callVv (a_X12_clause (l := l) fu  _ ) lc_X12_321 rfl rfl (by decide) (Nat.le_of_ble_eq_true rfl) rfl dX12_goThrough_47 (fun q1 hq1 => ?_)
  exact (a_X12_goThrough_b50 (l := l) fu r1 n1 x2 x3 h1  fu  _).sub ⟨rfl, trivial⟩
theorem a_X12_goThrough {l : Launch} (fu : Nat)  (r1 n1 : Nat) (x2 : Int32) (x3 : Int32) (M : xM) (h1 : SM[r1]? = some (.inl (1, n1))) : AM SM l yX12_goThrough cX12_goThrough 4 none 74 kv [xr 0, xr r1, xi x2, xi x3] M (F_X12_goThrough fu r1 n1 x2 x3  M) :=
  AM.of (L0 := [some (xr 0), some (xr r1), some (xi x2), some (xi x3)]) (w_X12_goThrough (l := l) fu r1 n1 x2 x3 h1  M ) (by decide +kernel) rfl (Nat.le_of_ble_eq_true rfl) ⟨rfl, rfl, rfl, rfl, trivial⟩
def F_X12_fault (fu : Nat)     (M : xM) : Option (Int32 × xM) :=
  (F_X12_goThrough fu 7 120 (0 : Int32) ((xset M 0 0 (0 : Int32)) 0 15) (xset M 0 0 (0 : Int32))).bind fun q1 =>
  some ((q1 0 21), q1)
set_option maxRecDepth 100000 in
set_option maxHeartbeats 4000000 in
theorem w_X12_fault {l : Launch} (fu : Nat)      (M : xM)  : AW SM l RX12 cX12_fault 1 (some .int) 75 ki (F_X12_fault fu  M) 0 [some (xr 0)] [] M := by
  unfold F_X12_fault
  refine A_aload_n dX12_fault_0 rfl ?_
  refine A_iconst (v := (0 : Int32)) dX12_fault_1 oI_0 ?_
  refine A_puti lf_X12_180 rfl rfl dX12_fault_2 ?_
  refine A_aload_n dX12_fault_5 rfl ?_
  refine A_aload_n dX12_fault_6 rfl ?_
  refine A_getr lf_X12_29 rfl rfl dX12_fault_7 ?_
  refine A_iconst (v := (0 : Int32)) dX12_fault_10 oI_0 ?_
  refine A_aload_n dX12_fault_11 rfl ?_
  refine A_geti lf_X12_229 rfl rfl dX12_fault_12 ?_
  refine A_callVv (a_X12_goThrough (l := l) fu _ _ _ _ _ rfl) lc_X12_324 rfl rfl (by decide) (Nat.le_of_ble_eq_true rfl) rfl dX12_fault_15 (fun q1 hq1 => ?_)
  refine A_aload_n dX12_fault_18 rfl ?_
  refine A_geti lf_X12_247 rfl rfl dX12_fault_19 ?_
  exact A_iret rfl dX12_fault_22
theorem a_X12_fault {l : Launch} (fu : Nat)   (M : xM)  : AM SM l yX12_fault cX12_fault 1 (some .int) 75 ki [xr 0] M (F_X12_fault fu   M) :=
  AM.of (L0 := [some (xr 0)]) (w_X12_fault (l := l) fu  M ) (by decide +kernel) rfl (Nat.le_of_ble_eq_true rfl) ⟨rfl, trivial⟩
def F_X12_law_b40 (fu : Nat)    : Nat → Int32 → xM → Option (Int32 × xM)
  | 0, _, _ => none
  | n + 1, x1, M =>
    (if (M 0 15) ≤ x1 then
    (if (M 0 16) < 0 ∨ 4 ≤ (M 0 16).toNatClampNeg then none else
    some ((((xset (xset (xset M 9 (M 0 16).toNatClampNeg (M 0 15)) 0 15 (0 : Int32)) 0 16 (((xset (xset M 9 (M 0 16).toNatClampNeg (M 0 15)) 0 15 (0 : Int32)) 0 16) + (1 : Int32))) 0 16) - (1 : Int32)), (xset (xset (xset M 9 (M 0 16).toNatClampNeg (M 0 15)) 0 15 (0 : Int32)) 0 16 (((xset (xset M 9 (M 0 16).toNatClampNeg (M 0 15)) 0 15 (0 : Int32)) 0 16) + (1 : Int32)))))
    else
    (if x1 < 0 ∨ 120 ≤ x1.toNatClampNeg then none else
    (if (((120 : Int32) * (M 0 16)) + x1) < 0 ∨ 480 ≤ (((120 : Int32) * (M 0 16)) + x1).toNatClampNeg then none else
    F_X12_law_b40 fu n (x1 + (1 : Int32)) (xset M 8 (((120 : Int32) * (M 0 16)) + x1).toNatClampNeg (vp_nar .byte (M 7 x1.toNatClampNeg))))))
set_option maxRecDepth 100000 in
set_option maxHeartbeats 4000000 in
theorem a_X12_law_b40 {l : Launch} (fu : Nat)     : ∀ (n : Nat) (x1 : Int32) (M : xM), AW SM l RX12 cX12_law 2 (some .int) 75 ki (F_X12_law_b40 fu n x1 M) 40 [some (xr 0), some (xi x1)] [] M := by
  intro n
  induction n with
  | zero =>
    intro x1 M
    exact AW.none
  | succ n ih =>
    intro x1 M
    rw [F_X12_law_b40]
    refine A_iload_n dX12_law_40 rfl ?_
    refine A_aload_n dX12_law_41 rfl ?_
    refine A_geti lf_X12_229 rfl rfl dX12_law_42 ?_
    refine A_icmp_ge (tgt := 74) dX12_law_45 (by decide) (fun _ => ?_) (fun _ => ?_)
    · refine A_aload_n dX12_law_74 rfl ?_
      refine A_getr lf_X12_36 rfl rfl dX12_law_75 ?_
      refine A_aload_n dX12_law_78 rfl ?_
      refine A_geti lf_X12_328 rfl rfl dX12_law_79 ?_
      refine A_aload_n dX12_law_82 rfl ?_
      refine A_geti lf_X12_229 rfl rfl dX12_law_83 ?_
      refine A_iast rfl dX12_law_86 (fun _ => ?_)
      refine A_aload_n dX12_law_87 rfl ?_
      refine A_iconst (v := (0 : Int32)) dX12_law_88 oI_0 ?_
      refine A_puti lf_X12_229 rfl rfl dX12_law_89 ?_
      refine A_aload_n dX12_law_92 rfl ?_
      refine A_dup dX12_law_93 rfl ?_
      refine A_geti lf_X12_328 rfl rfl dX12_law_94 ?_
      refine A_iconst (v := (1 : Int32)) dX12_law_97 oI_1 ?_
      refine A_iadd dX12_law_98 ?_
      refine A_puti lf_X12_328 rfl rfl dX12_law_99 ?_
      refine A_aload_n dX12_law_102 rfl ?_
      refine A_geti lf_X12_328 rfl rfl dX12_law_103 ?_
      refine A_iconst (v := (1 : Int32)) dX12_law_106 oI_1 ?_
      refine A_isub dX12_law_107 ?_
      exact A_iret rfl dX12_law_108
    · refine A_aload_n dX12_law_48 rfl ?_
      refine A_getr lf_X12_33 rfl rfl dX12_law_49 ?_
      refine A_bipush (v := (120 : Int32)) dX12_law_52 oB_120 ?_
      refine A_aload_n dX12_law_54 rfl ?_
      refine A_geti lf_X12_328 rfl rfl dX12_law_55 ?_
      refine A_imul dX12_law_58 ?_
      refine A_iload_n dX12_law_59 rfl ?_
      refine A_iadd dX12_law_60 ?_
      refine A_aload_n dX12_law_61 rfl ?_
      refine A_getr lf_X12_29 rfl rfl dX12_law_62 ?_
      refine A_iload_n dX12_law_65 rfl ?_
      refine A_bald rfl dX12_law_66 (fun _ => ?_)
      refine A_bast rfl dX12_law_67 (fun _ => ?_)
      refine A_iinc dX12_law_68 rfl oI_1 (Nat.le_of_ble_eq_true rfl) rfl ?_
      refine A_goto (tgt := 40) dX12_law_71 (by decide) ?_
      exact (ih _ _).sub ⟨rfl, rfl, trivial⟩
def F_X12_law (fu : Nat)     (M : xM) : Option (Int32 × xM) :=
  (if ((xset M 0 0 (0 : Int32)) 0 16) = (4 : Int32) then
  some ((-1 : Int32), (xset M 0 0 (0 : Int32)))
  else
  (F_X12_goThrough fu 7 120 (0 : Int32) ((xset M 0 0 (0 : Int32)) 0 15) (xset M 0 0 (0 : Int32))).bind fun q1 =>
  (if (q1 0 21) = (-1 : Int32) then
  F_X12_law_b40 fu fu (0 : Int32) q1
  else
  some ((-1 : Int32), q1)))
set_option maxRecDepth 100000 in
set_option maxHeartbeats 4000000 in
theorem w_X12_law {l : Launch} (fu : Nat)      (M : xM)  : AW SM l RX12 cX12_law 2 (some .int) 75 ki (F_X12_law fu  M) 0 [some (xr 0), none] [] M := by
  unfold F_X12_law
  refine A_aload_n dX12_law_0 rfl ?_
  refine A_iconst (v := (0 : Int32)) dX12_law_1 oI_0 ?_
  refine A_puti lf_X12_180 rfl rfl dX12_law_2 ?_
  refine A_aload_n dX12_law_5 rfl ?_
  refine A_geti lf_X12_328 rfl rfl dX12_law_6 ?_
  refine A_iconst (v := (4 : Int32)) dX12_law_9 oI_4 ?_
  refine A_icmp_ne (tgt := 15) dX12_law_10 (by decide) (fun _ => ?_) (fun _ => ?_)
  · refine A_iconst (v := (-1 : Int32)) dX12_law_13 oI_m1 ?_
    exact A_iret rfl dX12_law_14
  · refine A_aload_n dX12_law_15 rfl ?_
    refine A_aload_n dX12_law_16 rfl ?_
    refine A_getr lf_X12_29 rfl rfl dX12_law_17 ?_
    refine A_iconst (v := (0 : Int32)) dX12_law_20 oI_0 ?_
    refine A_aload_n dX12_law_21 rfl ?_
    refine A_geti lf_X12_229 rfl rfl dX12_law_22 ?_
    refine A_callVv (a_X12_goThrough (l := l) fu _ _ _ _ _ rfl) lc_X12_324 rfl rfl (by decide) (Nat.le_of_ble_eq_true rfl) rfl dX12_law_25 (fun q1 hq1 => ?_)
    refine A_aload_n dX12_law_28 rfl ?_
    refine A_geti lf_X12_247 rfl rfl dX12_law_29 ?_
    refine A_iconst (v := (-1 : Int32)) dX12_law_32 oI_m1 ?_
    refine A_icmp_eq (tgt := 38) dX12_law_33 (by decide) (fun _ => ?_) (fun _ => ?_)
    · refine A_iconst (v := (0 : Int32)) dX12_law_38 oI_0 ?_
      refine A_istore_n dX12_law_39 (Nat.le_of_ble_eq_true rfl) rfl ?_
      exact (a_X12_law_b40 (l := l) fu  fu _ _).sub ⟨rfl, rfl, trivial⟩
    · refine A_iconst (v := (-1 : Int32)) dX12_law_36 oI_m1 ?_
      exact A_iret rfl dX12_law_37
theorem a_X12_law {l : Launch} (fu : Nat)   (M : xM)  : AM SM l yX12_law cX12_law 2 (some .int) 75 ki [xr 0] M (F_X12_law fu   M) :=
  AM.of (L0 := [some (xr 0), none]) (w_X12_law (l := l) fu  M ) (by decide +kernel) rfl (Nat.le_of_ble_eq_true rfl) ⟨rfl, trivial⟩
def F_X12_use_b26  (x1 : Int32)   (M : xM) : Option (Int32 × xM) :=
  some ((1 : Int32), (xset M 0 17 x1))
set_option maxRecDepth 100000 in
set_option maxHeartbeats 4000000 in
theorem a_X12_use_b26 {l : Launch} (x1 : Int32)     (M : xM)  : AW SM l RX12 cX12_use 2 (some .boolean) 1 ki (F_X12_use_b26 x1  M) 26 [some (xr 0), some (xi x1)] [] M := by
  unfold F_X12_use_b26
  refine A_aload_n dX12_use_26 rfl ?_
  refine A_iload_n dX12_use_27 rfl ?_
  refine A_puti lf_X12_45 rfl rfl dX12_use_28 ?_
  refine A_iconst (v := (1 : Int32)) dX12_use_31 oI_1 ?_
  exact A_zret' rfl (Or.inr rfl) dX12_use_32
def F_X12_use  (x1 : Int32)   (M : xM) : Option (Int32 × xM) :=
  (if x1 = (-1 : Int32) then
  F_X12_use_b26 x1  (xset M 0 0 (0 : Int32))
  else
  (if (P_X12_isIn x1 (0 : Int32) (((xset M 0 0 (0 : Int32)) 0 16) - (1 : Int32)) (xset M 0 0 (0 : Int32))) = 0 then
  some ((0 : Int32), (xset M 0 0 (0 : Int32)))
  else
  F_X12_use_b26 x1  (xset M 0 0 (0 : Int32))))
set_option maxRecDepth 100000 in
set_option maxHeartbeats 4000000 in
theorem w_X12_use {l : Launch} (x1 : Int32)     (M : xM)  : AW SM l RX12 cX12_use 2 (some .boolean) 1 ki (F_X12_use x1  M) 0 [some (xr 0), some (xi x1)] [] M := by
  unfold F_X12_use
  refine A_aload_n dX12_use_0 rfl ?_
  refine A_iconst (v := (0 : Int32)) dX12_use_1 oI_0 ?_
  refine A_puti lf_X12_180 rfl rfl dX12_use_2 ?_
  refine A_iload_n dX12_use_5 rfl ?_
  refine A_iconst (v := (-1 : Int32)) dX12_use_6 oI_m1 ?_
  refine A_icmp_eq (tgt := 26) dX12_use_7 (by decide) (fun _ => ?_) (fun _ => ?_)
  · exact (a_X12_use_b26 (l := l) x1   _ ).sub ⟨rfl, rfl, trivial⟩
  · refine A_iload_n dX12_use_10 rfl ?_
    refine A_iconst (v := (0 : Int32)) dX12_use_11 oI_0 ?_
    refine A_aload_n dX12_use_12 rfl ?_
    refine A_geti lf_X12_328 rfl rfl dX12_use_13 ?_
    refine A_iconst (v := (1 : Int32)) dX12_use_16 oI_1 ?_
    refine A_isub dX12_use_17 ?_
    refine A_callSp (a_X12_isIn (l := l) _ _ _ _ ) lc_X12_196 rfl (by decide) (Nat.le_of_ble_eq_true rfl) rfl dX12_use_18 ?_
    refine A_if_ne (tgt := 26) dX12_use_21 (by decide) (fun _ => ?_) (fun _ => ?_)
    · refine A_iconst (v := (0 : Int32)) dX12_use_24 oI_0 ?_
      exact A_zret' rfl (Or.inl rfl) dX12_use_25
    · exact (a_X12_use_b26 (l := l) x1   _ ).sub ⟨rfl, rfl, trivial⟩
theorem a_X12_use {l : Launch}  (x1 : Int32) (M : xM)  : AM SM l yX12_use cX12_use 2 (some .boolean) 1 ki [xr 0, xi x1] M (F_X12_use  x1  M) :=
  AM.of (L0 := [some (xr 0), some (xi x1)]) (w_X12_use (l := l) x1  M ) (by decide +kernel) rfl (Nat.le_of_ble_eq_true rfl) ⟨rfl, rfl, trivial⟩
def P_X12_isMachine  (x1 : Int32)   (M : xM) : Int32 :=
  (if x1 < 0 then
  (0 : Int32)
  else
  (if (M 0 32) ≤ x1 then
  (0 : Int32)
  else
  (1 : Int32)))
set_option maxRecDepth 100000 in
set_option maxHeartbeats 4000000 in
theorem w_X12_isMachine {l : Launch} (x1 : Int32)     (M : xM)  : AW SM l RX12 cX12_isMachine 2 (some .boolean) 0 ki (some (P_X12_isMachine x1  M, M)) 0 [some (xr 0), some (xi x1)] [] M := by
  unfold P_X12_isMachine
  refine A_iload_n dX12_isMachine_0 rfl ?_
  refine A_if_lt_p (tgt := 16) dX12_isMachine_1 (by decide) (fun _ => ?_) (fun _ => ?_)
  · refine A_iconst (v := (0 : Int32)) dX12_isMachine_16 oI_0 ?_
    exact A_zret' rfl (Or.inl rfl) dX12_isMachine_17
  · refine A_iload_n dX12_isMachine_4 rfl ?_
    refine A_aload_n dX12_isMachine_5 rfl ?_
    refine A_geti lf_X12_331 rfl rfl dX12_isMachine_6 ?_
    refine A_icmp_ge_p (tgt := 16) dX12_isMachine_9 (by decide) (fun _ => ?_) (fun _ => ?_)
    · refine A_iconst (v := (0 : Int32)) dX12_isMachine_16 oI_0 ?_
      exact A_zret' rfl (Or.inl rfl) dX12_isMachine_17
    · refine A_iconst (v := (1 : Int32)) dX12_isMachine_12 oI_1 ?_
      refine A_goto (tgt := 17) dX12_isMachine_13 (by decide) ?_
      exact A_zret' rfl (Or.inr rfl) dX12_isMachine_17
theorem a_X12_isMachine {l : Launch}  (x1 : Int32) (M : xM)  : AM SM l yX12_isMachine cX12_isMachine 2 (some .boolean) 0 ki [xr 0, xi x1] M (some (P_X12_isMachine  x1  M, M)) :=
  AM.of (L0 := [some (xr 0), some (xi x1)]) (w_X12_isMachine (l := l) x1  M ) (by decide +kernel) rfl (Nat.le_of_ble_eq_true rfl) ⟨rfl, rfl, trivial⟩
theorem zP_X12_isMachine (x1 : Int32) (M : xM) : P_X12_isMachine x1 M = 0 ∨ P_X12_isMachine x1 M = 1 := by
  unfold P_X12_isMachine
  repeat' split
  all_goals first | decide
def P_X12_isNumber  (x0 : Int32)   (M : xM) : Int32 :=
  (P_X12_isIn x0 (0 : Int32) (999 : Int32) M)
set_option maxRecDepth 100000 in
set_option maxHeartbeats 4000000 in
theorem w_X12_isNumber {l : Launch} (x0 : Int32)     (M : xM)  : AW SM l RX12 cX12_isNumber 1 (some .boolean) 1 ki (some (P_X12_isNumber x0  M, M)) 0 [some (xi x0)] [] M := by
  unfold P_X12_isNumber
  refine A_iload_n dX12_isNumber_0 rfl ?_
  refine A_iconst (v := (0 : Int32)) dX12_isNumber_1 oI_0 ?_
  refine A_sipush (v := (999 : Int32)) dX12_isNumber_2 oS_999 ?_
  refine A_callSp (a_X12_isIn (l := l) _ _ _ _ ) lc_X12_196 rfl (by decide) (Nat.le_of_ble_eq_true rfl) rfl dX12_isNumber_5 ?_
  exact A_zret' rfl (zP_X12_isIn _ _ _ _) dX12_isNumber_8
theorem a_X12_isNumber {l : Launch}  (x0 : Int32) (M : xM)  : AM SM l yX12_isNumber cX12_isNumber 1 (some .boolean) 1 ki [xi x0] M (some (P_X12_isNumber  x0  M, M)) :=
  AM.of (L0 := [some (xi x0)]) (w_X12_isNumber (l := l) x0  M ) (by decide +kernel) rfl (Nat.le_of_ble_eq_true rfl) ⟨rfl, trivial⟩
theorem zP_X12_isNumber (x0 : Int32) (M : xM) : P_X12_isNumber x0 M = 0 ∨ P_X12_isNumber x0 M = 1 := by
  unfold P_X12_isNumber
  repeat' split
  all_goals first | decide | with_reducible exact zP_X12_isIn _ _ _ _
def F_X12_machine  (x1 : Int32) (x2 : Int32) (x3 : Int32) (x4 : Int32) (x5 : Int32)   (M : xM) : Option (Int32 × xM) :=
  (if ((xset M 0 0 (0 : Int32)) 0 32) = (6 : Int32) then
  some ((-1 : Int32), (xset M 0 0 (0 : Int32)))
  else
  (if (P_X12_isNumber x1 (xset M 0 0 (0 : Int32))) = 0 then
  some ((-1 : Int32), (xset M 0 0 (0 : Int32)))
  else
  (if (P_X12_isNumber x2 (xset M 0 0 (0 : Int32))) = 0 then
  some ((-1 : Int32), (xset M 0 0 (0 : Int32)))
  else
  (if (P_X12_isNumber x3 (xset M 0 0 (0 : Int32))) = 0 then
  some ((-1 : Int32), (xset M 0 0 (0 : Int32)))
  else
  (if (P_X12_isNumber x4 (xset M 0 0 (0 : Int32))) = 0 then
  some ((-1 : Int32), (xset M 0 0 (0 : Int32)))
  else
  (if (P_X12_isNumber x5 (xset M 0 0 (0 : Int32))) = 0 then
  some ((-1 : Int32), (xset M 0 0 (0 : Int32)))
  else
  (if ((5 : Int32) * ((xset M 0 0 (0 : Int32)) 0 32)) < 0 ∨ 30 ≤ ((5 : Int32) * ((xset M 0 0 (0 : Int32)) 0 32)).toNatClampNeg then none else
  (if (((5 : Int32) * ((xset (xset M 0 0 (0 : Int32)) 11 ((5 : Int32) * ((xset M 0 0 (0 : Int32)) 0 32)).toNatClampNeg x1) 0 32)) + (1 : Int32)) < 0 ∨ 30 ≤ (((5 : Int32) * ((xset (xset M 0 0 (0 : Int32)) 11 ((5 : Int32) * ((xset M 0 0 (0 : Int32)) 0 32)).toNatClampNeg x1) 0 32)) + (1 : Int32)).toNatClampNeg then none else
  (if (((5 : Int32) * ((xset (xset (xset M 0 0 (0 : Int32)) 11 ((5 : Int32) * ((xset M 0 0 (0 : Int32)) 0 32)).toNatClampNeg x1) 11 (((5 : Int32) * ((xset (xset M 0 0 (0 : Int32)) 11 ((5 : Int32) * ((xset M 0 0 (0 : Int32)) 0 32)).toNatClampNeg x1) 0 32)) + (1 : Int32)).toNatClampNeg x2) 0 32)) + (2 : Int32)) < 0 ∨ 30 ≤ (((5 : Int32) * ((xset (xset (xset M 0 0 (0 : Int32)) 11 ((5 : Int32) * ((xset M 0 0 (0 : Int32)) 0 32)).toNatClampNeg x1) 11 (((5 : Int32) * ((xset (xset M 0 0 (0 : Int32)) 11 ((5 : Int32) * ((xset M 0 0 (0 : Int32)) 0 32)).toNatClampNeg x1) 0 32)) + (1 : Int32)).toNatClampNeg x2) 0 32)) + (2 : Int32)).toNatClampNeg then none else
  (if (((5 : Int32) * ((xset (xset (xset (xset M 0 0 (0 : Int32)) 11 ((5 : Int32) * ((xset M 0 0 (0 : Int32)) 0 32)).toNatClampNeg x1) 11 (((5 : Int32) * ((xset (xset M 0 0 (0 : Int32)) 11 ((5 : Int32) * ((xset M 0 0 (0 : Int32)) 0 32)).toNatClampNeg x1) 0 32)) + (1 : Int32)).toNatClampNeg x2) 11 (((5 : Int32) * ((xset (xset (xset M 0 0 (0 : Int32)) 11 ((5 : Int32) * ((xset M 0 0 (0 : Int32)) 0 32)).toNatClampNeg x1) 11 (((5 : Int32) * ((xset (xset M 0 0 (0 : Int32)) 11 ((5 : Int32) * ((xset M 0 0 (0 : Int32)) 0 32)).toNatClampNeg x1) 0 32)) + (1 : Int32)).toNatClampNeg x2) 0 32)) + (2 : Int32)).toNatClampNeg x3) 0 32)) + (3 : Int32)) < 0 ∨ 30 ≤ (((5 : Int32) * ((xset (xset (xset (xset M 0 0 (0 : Int32)) 11 ((5 : Int32) * ((xset M 0 0 (0 : Int32)) 0 32)).toNatClampNeg x1) 11 (((5 : Int32) * ((xset (xset M 0 0 (0 : Int32)) 11 ((5 : Int32) * ((xset M 0 0 (0 : Int32)) 0 32)).toNatClampNeg x1) 0 32)) + (1 : Int32)).toNatClampNeg x2) 11 (((5 : Int32) * ((xset (xset (xset M 0 0 (0 : Int32)) 11 ((5 : Int32) * ((xset M 0 0 (0 : Int32)) 0 32)).toNatClampNeg x1) 11 (((5 : Int32) * ((xset (xset M 0 0 (0 : Int32)) 11 ((5 : Int32) * ((xset M 0 0 (0 : Int32)) 0 32)).toNatClampNeg x1) 0 32)) + (1 : Int32)).toNatClampNeg x2) 0 32)) + (2 : Int32)).toNatClampNeg x3) 0 32)) + (3 : Int32)).toNatClampNeg then none else
  (if (((5 : Int32) * ((xset (xset (xset (xset (xset M 0 0 (0 : Int32)) 11 ((5 : Int32) * ((xset M 0 0 (0 : Int32)) 0 32)).toNatClampNeg x1) 11 (((5 : Int32) * ((xset (xset M 0 0 (0 : Int32)) 11 ((5 : Int32) * ((xset M 0 0 (0 : Int32)) 0 32)).toNatClampNeg x1) 0 32)) + (1 : Int32)).toNatClampNeg x2) 11 (((5 : Int32) * ((xset (xset (xset M 0 0 (0 : Int32)) 11 ((5 : Int32) * ((xset M 0 0 (0 : Int32)) 0 32)).toNatClampNeg x1) 11 (((5 : Int32) * ((xset (xset M 0 0 (0 : Int32)) 11 ((5 : Int32) * ((xset M 0 0 (0 : Int32)) 0 32)).toNatClampNeg x1) 0 32)) + (1 : Int32)).toNatClampNeg x2) 0 32)) + (2 : Int32)).toNatClampNeg x3) 11 (((5 : Int32) * ((xset (xset (xset (xset M 0 0 (0 : Int32)) 11 ((5 : Int32) * ((xset M 0 0 (0 : Int32)) 0 32)).toNatClampNeg x1) 11 (((5 : Int32) * ((xset (xset M 0 0 (0 : Int32)) 11 ((5 : Int32) * ((xset M 0 0 (0 : Int32)) 0 32)).toNatClampNeg x1) 0 32)) + (1 : Int32)).toNatClampNeg x2) 11 (((5 : Int32) * ((xset (xset (xset M 0 0 (0 : Int32)) 11 ((5 : Int32) * ((xset M 0 0 (0 : Int32)) 0 32)).toNatClampNeg x1) 11 (((5 : Int32) * ((xset (xset M 0 0 (0 : Int32)) 11 ((5 : Int32) * ((xset M 0 0 (0 : Int32)) 0 32)).toNatClampNeg x1) 0 32)) + (1 : Int32)).toNatClampNeg x2) 0 32)) + (2 : Int32)).toNatClampNeg x3) 0 32)) + (3 : Int32)).toNatClampNeg x4) 0 32)) + (4 : Int32)) < 0 ∨ 30 ≤ (((5 : Int32) * ((xset (xset (xset (xset (xset M 0 0 (0 : Int32)) 11 ((5 : Int32) * ((xset M 0 0 (0 : Int32)) 0 32)).toNatClampNeg x1) 11 (((5 : Int32) * ((xset (xset M 0 0 (0 : Int32)) 11 ((5 : Int32) * ((xset M 0 0 (0 : Int32)) 0 32)).toNatClampNeg x1) 0 32)) + (1 : Int32)).toNatClampNeg x2) 11 (((5 : Int32) * ((xset (xset (xset M 0 0 (0 : Int32)) 11 ((5 : Int32) * ((xset M 0 0 (0 : Int32)) 0 32)).toNatClampNeg x1) 11 (((5 : Int32) * ((xset (xset M 0 0 (0 : Int32)) 11 ((5 : Int32) * ((xset M 0 0 (0 : Int32)) 0 32)).toNatClampNeg x1) 0 32)) + (1 : Int32)).toNatClampNeg x2) 0 32)) + (2 : Int32)).toNatClampNeg x3) 11 (((5 : Int32) * ((xset (xset (xset (xset M 0 0 (0 : Int32)) 11 ((5 : Int32) * ((xset M 0 0 (0 : Int32)) 0 32)).toNatClampNeg x1) 11 (((5 : Int32) * ((xset (xset M 0 0 (0 : Int32)) 11 ((5 : Int32) * ((xset M 0 0 (0 : Int32)) 0 32)).toNatClampNeg x1) 0 32)) + (1 : Int32)).toNatClampNeg x2) 11 (((5 : Int32) * ((xset (xset (xset M 0 0 (0 : Int32)) 11 ((5 : Int32) * ((xset M 0 0 (0 : Int32)) 0 32)).toNatClampNeg x1) 11 (((5 : Int32) * ((xset (xset M 0 0 (0 : Int32)) 11 ((5 : Int32) * ((xset M 0 0 (0 : Int32)) 0 32)).toNatClampNeg x1) 0 32)) + (1 : Int32)).toNatClampNeg x2) 0 32)) + (2 : Int32)).toNatClampNeg x3) 0 32)) + (3 : Int32)).toNatClampNeg x4) 0 32)) + (4 : Int32)).toNatClampNeg then none else
  some ((((xset (xset (xset (xset (xset (xset (xset M 0 0 (0 : Int32)) 11 ((5 : Int32) * ((xset M 0 0 (0 : Int32)) 0 32)).toNatClampNeg x1) 11 (((5 : Int32) * ((xset (xset M 0 0 (0 : Int32)) 11 ((5 : Int32) * ((xset M 0 0 (0 : Int32)) 0 32)).toNatClampNeg x1) 0 32)) + (1 : Int32)).toNatClampNeg x2) 11 (((5 : Int32) * ((xset (xset (xset M 0 0 (0 : Int32)) 11 ((5 : Int32) * ((xset M 0 0 (0 : Int32)) 0 32)).toNatClampNeg x1) 11 (((5 : Int32) * ((xset (xset M 0 0 (0 : Int32)) 11 ((5 : Int32) * ((xset M 0 0 (0 : Int32)) 0 32)).toNatClampNeg x1) 0 32)) + (1 : Int32)).toNatClampNeg x2) 0 32)) + (2 : Int32)).toNatClampNeg x3) 11 (((5 : Int32) * ((xset (xset (xset (xset M 0 0 (0 : Int32)) 11 ((5 : Int32) * ((xset M 0 0 (0 : Int32)) 0 32)).toNatClampNeg x1) 11 (((5 : Int32) * ((xset (xset M 0 0 (0 : Int32)) 11 ((5 : Int32) * ((xset M 0 0 (0 : Int32)) 0 32)).toNatClampNeg x1) 0 32)) + (1 : Int32)).toNatClampNeg x2) 11 (((5 : Int32) * ((xset (xset (xset M 0 0 (0 : Int32)) 11 ((5 : Int32) * ((xset M 0 0 (0 : Int32)) 0 32)).toNatClampNeg x1) 11 (((5 : Int32) * ((xset (xset M 0 0 (0 : Int32)) 11 ((5 : Int32) * ((xset M 0 0 (0 : Int32)) 0 32)).toNatClampNeg x1) 0 32)) + (1 : Int32)).toNatClampNeg x2) 0 32)) + (2 : Int32)).toNatClampNeg x3) 0 32)) + (3 : Int32)).toNatClampNeg x4) 11 (((5 : Int32) * ((xset (xset (xset (xset (xset M 0 0 (0 : Int32)) 11 ((5 : Int32) * ((xset M 0 0 (0 : Int32)) 0 32)).toNatClampNeg x1) 11 (((5 : Int32) * ((xset (xset M 0 0 (0 : Int32)) 11 ((5 : Int32) * ((xset M 0 0 (0 : Int32)) 0 32)).toNatClampNeg x1) 0 32)) + (1 : Int32)).toNatClampNeg x2) 11 (((5 : Int32) * ((xset (xset (xset M 0 0 (0 : Int32)) 11 ((5 : Int32) * ((xset M 0 0 (0 : Int32)) 0 32)).toNatClampNeg x1) 11 (((5 : Int32) * ((xset (xset M 0 0 (0 : Int32)) 11 ((5 : Int32) * ((xset M 0 0 (0 : Int32)) 0 32)).toNatClampNeg x1) 0 32)) + (1 : Int32)).toNatClampNeg x2) 0 32)) + (2 : Int32)).toNatClampNeg x3) 11 (((5 : Int32) * ((xset (xset (xset (xset M 0 0 (0 : Int32)) 11 ((5 : Int32) * ((xset M 0 0 (0 : Int32)) 0 32)).toNatClampNeg x1) 11 (((5 : Int32) * ((xset (xset M 0 0 (0 : Int32)) 11 ((5 : Int32) * ((xset M 0 0 (0 : Int32)) 0 32)).toNatClampNeg x1) 0 32)) + (1 : Int32)).toNatClampNeg x2) 11 (((5 : Int32) * ((xset (xset (xset M 0 0 (0 : Int32)) 11 ((5 : Int32) * ((xset M 0 0 (0 : Int32)) 0 32)).toNatClampNeg x1) 11 (((5 : Int32) * ((xset (xset M 0 0 (0 : Int32)) 11 ((5 : Int32) * ((xset M 0 0 (0 : Int32)) 0 32)).toNatClampNeg x1) 0 32)) + (1 : Int32)).toNatClampNeg x2) 0 32)) + (2 : Int32)).toNatClampNeg x3) 0 32)) + (3 : Int32)).toNatClampNeg x4) 0 32)) + (4 : Int32)).toNatClampNeg x5) 0 32 (((xset (xset (xset (xset (xset (xset M 0 0 (0 : Int32)) 11 ((5 : Int32) * ((xset M 0 0 (0 : Int32)) 0 32)).toNatClampNeg x1) 11 (((5 : Int32) * ((xset (xset M 0 0 (0 : Int32)) 11 ((5 : Int32) * ((xset M 0 0 (0 : Int32)) 0 32)).toNatClampNeg x1) 0 32)) + (1 : Int32)).toNatClampNeg x2) 11 (((5 : Int32) * ((xset (xset (xset M 0 0 (0 : Int32)) 11 ((5 : Int32) * ((xset M 0 0 (0 : Int32)) 0 32)).toNatClampNeg x1) 11 (((5 : Int32) * ((xset (xset M 0 0 (0 : Int32)) 11 ((5 : Int32) * ((xset M 0 0 (0 : Int32)) 0 32)).toNatClampNeg x1) 0 32)) + (1 : Int32)).toNatClampNeg x2) 0 32)) + (2 : Int32)).toNatClampNeg x3) 11 (((5 : Int32) * ((xset (xset (xset (xset M 0 0 (0 : Int32)) 11 ((5 : Int32) * ((xset M 0 0 (0 : Int32)) 0 32)).toNatClampNeg x1) 11 (((5 : Int32) * ((xset (xset M 0 0 (0 : Int32)) 11 ((5 : Int32) * ((xset M 0 0 (0 : Int32)) 0 32)).toNatClampNeg x1) 0 32)) + (1 : Int32)).toNatClampNeg x2) 11 (((5 : Int32) * ((xset (xset (xset M 0 0 (0 : Int32)) 11 ((5 : Int32) * ((xset M 0 0 (0 : Int32)) 0 32)).toNatClampNeg x1) 11 (((5 : Int32) * ((xset (xset M 0 0 (0 : Int32)) 11 ((5 : Int32) * ((xset M 0 0 (0 : Int32)) 0 32)).toNatClampNeg x1) 0 32)) + (1 : Int32)).toNatClampNeg x2) 0 32)) + (2 : Int32)).toNatClampNeg x3) 0 32)) + (3 : Int32)).toNatClampNeg x4) 11 (((5 : Int32) * ((xset (xset (xset (xset (xset M 0 0 (0 : Int32)) 11 ((5 : Int32) * ((xset M 0 0 (0 : Int32)) 0 32)).toNatClampNeg x1) 11 (((5 : Int32) * ((xset (xset M 0 0 (0 : Int32)) 11 ((5 : Int32) * ((xset M 0 0 (0 : Int32)) 0 32)).toNatClampNeg x1) 0 32)) + (1 : Int32)).toNatClampNeg x2) 11 (((5 : Int32) * ((xset (xset (xset M 0 0 (0 : Int32)) 11 ((5 : Int32) * ((xset M 0 0 (0 : Int32)) 0 32)).toNatClampNeg x1) 11 (((5 : Int32) * ((xset (xset M 0 0 (0 : Int32)) 11 ((5 : Int32) * ((xset M 0 0 (0 : Int32)) 0 32)).toNatClampNeg x1) 0 32)) + (1 : Int32)).toNatClampNeg x2) 0 32)) + (2 : Int32)).toNatClampNeg x3) 11 (((5 : Int32) * ((xset (xset (xset (xset M 0 0 (0 : Int32)) 11 ((5 : Int32) * ((xset M 0 0 (0 : Int32)) 0 32)).toNatClampNeg x1) 11 (((5 : Int32) * ((xset (xset M 0 0 (0 : Int32)) 11 ((5 : Int32) * ((xset M 0 0 (0 : Int32)) 0 32)).toNatClampNeg x1) 0 32)) + (1 : Int32)).toNatClampNeg x2) 11 (((5 : Int32) * ((xset (xset (xset M 0 0 (0 : Int32)) 11 ((5 : Int32) * ((xset M 0 0 (0 : Int32)) 0 32)).toNatClampNeg x1) 11 (((5 : Int32) * ((xset (xset M 0 0 (0 : Int32)) 11 ((5 : Int32) * ((xset M 0 0 (0 : Int32)) 0 32)).toNatClampNeg x1) 0 32)) + (1 : Int32)).toNatClampNeg x2) 0 32)) + (2 : Int32)).toNatClampNeg x3) 0 32)) + (3 : Int32)).toNatClampNeg x4) 0 32)) + (4 : Int32)).toNatClampNeg x5) 0 32) + (1 : Int32))) 0 32) - (1 : Int32)), (xset (xset (xset (xset (xset (xset (xset M 0 0 (0 : Int32)) 11 ((5 : Int32) * ((xset M 0 0 (0 : Int32)) 0 32)).toNatClampNeg x1) 11 (((5 : Int32) * ((xset (xset M 0 0 (0 : Int32)) 11 ((5 : Int32) * ((xset M 0 0 (0 : Int32)) 0 32)).toNatClampNeg x1) 0 32)) + (1 : Int32)).toNatClampNeg x2) 11 (((5 : Int32) * ((xset (xset (xset M 0 0 (0 : Int32)) 11 ((5 : Int32) * ((xset M 0 0 (0 : Int32)) 0 32)).toNatClampNeg x1) 11 (((5 : Int32) * ((xset (xset M 0 0 (0 : Int32)) 11 ((5 : Int32) * ((xset M 0 0 (0 : Int32)) 0 32)).toNatClampNeg x1) 0 32)) + (1 : Int32)).toNatClampNeg x2) 0 32)) + (2 : Int32)).toNatClampNeg x3) 11 (((5 : Int32) * ((xset (xset (xset (xset M 0 0 (0 : Int32)) 11 ((5 : Int32) * ((xset M 0 0 (0 : Int32)) 0 32)).toNatClampNeg x1) 11 (((5 : Int32) * ((xset (xset M 0 0 (0 : Int32)) 11 ((5 : Int32) * ((xset M 0 0 (0 : Int32)) 0 32)).toNatClampNeg x1) 0 32)) + (1 : Int32)).toNatClampNeg x2) 11 (((5 : Int32) * ((xset (xset (xset M 0 0 (0 : Int32)) 11 ((5 : Int32) * ((xset M 0 0 (0 : Int32)) 0 32)).toNatClampNeg x1) 11 (((5 : Int32) * ((xset (xset M 0 0 (0 : Int32)) 11 ((5 : Int32) * ((xset M 0 0 (0 : Int32)) 0 32)).toNatClampNeg x1) 0 32)) + (1 : Int32)).toNatClampNeg x2) 0 32)) + (2 : Int32)).toNatClampNeg x3) 0 32)) + (3 : Int32)).toNatClampNeg x4) 11 (((5 : Int32) * ((xset (xset (xset (xset (xset M 0 0 (0 : Int32)) 11 ((5 : Int32) * ((xset M 0 0 (0 : Int32)) 0 32)).toNatClampNeg x1) 11 (((5 : Int32) * ((xset (xset M 0 0 (0 : Int32)) 11 ((5 : Int32) * ((xset M 0 0 (0 : Int32)) 0 32)).toNatClampNeg x1) 0 32)) + (1 : Int32)).toNatClampNeg x2) 11 (((5 : Int32) * ((xset (xset (xset M 0 0 (0 : Int32)) 11 ((5 : Int32) * ((xset M 0 0 (0 : Int32)) 0 32)).toNatClampNeg x1) 11 (((5 : Int32) * ((xset (xset M 0 0 (0 : Int32)) 11 ((5 : Int32) * ((xset M 0 0 (0 : Int32)) 0 32)).toNatClampNeg x1) 0 32)) + (1 : Int32)).toNatClampNeg x2) 0 32)) + (2 : Int32)).toNatClampNeg x3) 11 (((5 : Int32) * ((xset (xset (xset (xset M 0 0 (0 : Int32)) 11 ((5 : Int32) * ((xset M 0 0 (0 : Int32)) 0 32)).toNatClampNeg x1) 11 (((5 : Int32) * ((xset (xset M 0 0 (0 : Int32)) 11 ((5 : Int32) * ((xset M 0 0 (0 : Int32)) 0 32)).toNatClampNeg x1) 0 32)) + (1 : Int32)).toNatClampNeg x2) 11 (((5 : Int32) * ((xset (xset (xset M 0 0 (0 : Int32)) 11 ((5 : Int32) * ((xset M 0 0 (0 : Int32)) 0 32)).toNatClampNeg x1) 11 (((5 : Int32) * ((xset (xset M 0 0 (0 : Int32)) 11 ((5 : Int32) * ((xset M 0 0 (0 : Int32)) 0 32)).toNatClampNeg x1) 0 32)) + (1 : Int32)).toNatClampNeg x2) 0 32)) + (2 : Int32)).toNatClampNeg x3) 0 32)) + (3 : Int32)).toNatClampNeg x4) 0 32)) + (4 : Int32)).toNatClampNeg x5) 0 32 (((xset (xset (xset (xset (xset (xset M 0 0 (0 : Int32)) 11 ((5 : Int32) * ((xset M 0 0 (0 : Int32)) 0 32)).toNatClampNeg x1) 11 (((5 : Int32) * ((xset (xset M 0 0 (0 : Int32)) 11 ((5 : Int32) * ((xset M 0 0 (0 : Int32)) 0 32)).toNatClampNeg x1) 0 32)) + (1 : Int32)).toNatClampNeg x2) 11 (((5 : Int32) * ((xset (xset (xset M 0 0 (0 : Int32)) 11 ((5 : Int32) * ((xset M 0 0 (0 : Int32)) 0 32)).toNatClampNeg x1) 11 (((5 : Int32) * ((xset (xset M 0 0 (0 : Int32)) 11 ((5 : Int32) * ((xset M 0 0 (0 : Int32)) 0 32)).toNatClampNeg x1) 0 32)) + (1 : Int32)).toNatClampNeg x2) 0 32)) + (2 : Int32)).toNatClampNeg x3) 11 (((5 : Int32) * ((xset (xset (xset (xset M 0 0 (0 : Int32)) 11 ((5 : Int32) * ((xset M 0 0 (0 : Int32)) 0 32)).toNatClampNeg x1) 11 (((5 : Int32) * ((xset (xset M 0 0 (0 : Int32)) 11 ((5 : Int32) * ((xset M 0 0 (0 : Int32)) 0 32)).toNatClampNeg x1) 0 32)) + (1 : Int32)).toNatClampNeg x2) 11 (((5 : Int32) * ((xset (xset (xset M 0 0 (0 : Int32)) 11 ((5 : Int32) * ((xset M 0 0 (0 : Int32)) 0 32)).toNatClampNeg x1) 11 (((5 : Int32) * ((xset (xset M 0 0 (0 : Int32)) 11 ((5 : Int32) * ((xset M 0 0 (0 : Int32)) 0 32)).toNatClampNeg x1) 0 32)) + (1 : Int32)).toNatClampNeg x2) 0 32)) + (2 : Int32)).toNatClampNeg x3) 0 32)) + (3 : Int32)).toNatClampNeg x4) 11 (((5 : Int32) * ((xset (xset (xset (xset (xset M 0 0 (0 : Int32)) 11 ((5 : Int32) * ((xset M 0 0 (0 : Int32)) 0 32)).toNatClampNeg x1) 11 (((5 : Int32) * ((xset (xset M 0 0 (0 : Int32)) 11 ((5 : Int32) * ((xset M 0 0 (0 : Int32)) 0 32)).toNatClampNeg x1) 0 32)) + (1 : Int32)).toNatClampNeg x2) 11 (((5 : Int32) * ((xset (xset (xset M 0 0 (0 : Int32)) 11 ((5 : Int32) * ((xset M 0 0 (0 : Int32)) 0 32)).toNatClampNeg x1) 11 (((5 : Int32) * ((xset (xset M 0 0 (0 : Int32)) 11 ((5 : Int32) * ((xset M 0 0 (0 : Int32)) 0 32)).toNatClampNeg x1) 0 32)) + (1 : Int32)).toNatClampNeg x2) 0 32)) + (2 : Int32)).toNatClampNeg x3) 11 (((5 : Int32) * ((xset (xset (xset (xset M 0 0 (0 : Int32)) 11 ((5 : Int32) * ((xset M 0 0 (0 : Int32)) 0 32)).toNatClampNeg x1) 11 (((5 : Int32) * ((xset (xset M 0 0 (0 : Int32)) 11 ((5 : Int32) * ((xset M 0 0 (0 : Int32)) 0 32)).toNatClampNeg x1) 0 32)) + (1 : Int32)).toNatClampNeg x2) 11 (((5 : Int32) * ((xset (xset (xset M 0 0 (0 : Int32)) 11 ((5 : Int32) * ((xset M 0 0 (0 : Int32)) 0 32)).toNatClampNeg x1) 11 (((5 : Int32) * ((xset (xset M 0 0 (0 : Int32)) 11 ((5 : Int32) * ((xset M 0 0 (0 : Int32)) 0 32)).toNatClampNeg x1) 0 32)) + (1 : Int32)).toNatClampNeg x2) 0 32)) + (2 : Int32)).toNatClampNeg x3) 0 32)) + (3 : Int32)).toNatClampNeg x4) 0 32)) + (4 : Int32)).toNatClampNeg x5) 0 32) + (1 : Int32)))))))))))))))
set_option maxRecDepth 100000 in
set_option maxHeartbeats 4000000 in
theorem w_X12_machine {l : Launch} (x1 : Int32) (x2 : Int32) (x3 : Int32) (x4 : Int32) (x5 : Int32)     (M : xM)  : AW SM l RX12 cX12_machine 6 (some .int) 2 ki (F_X12_machine x1 x2 x3 x4 x5  M) 0 [some (xr 0), some (xi x1), some (xi x2), some (xi x3), some (xi x4), some (xi x5)] [] M := by
  unfold F_X12_machine
  refine A_aload_n dX12_machine_0 rfl ?_
  refine A_iconst (v := (0 : Int32)) dX12_machine_1 oI_0 ?_
  refine A_puti lf_X12_180 rfl rfl dX12_machine_2 ?_
  refine A_aload_n dX12_machine_5 rfl ?_
  refine A_geti lf_X12_331 rfl rfl dX12_machine_6 ?_
  refine A_bipush (v := (6 : Int32)) dX12_machine_9 oB_6 ?_
  refine A_icmp_eq (tgt := 51) dX12_machine_11 (by decide) (fun _ => ?_) (fun _ => ?_)
  · refine A_iconst (v := (-1 : Int32)) dX12_machine_51 oI_m1 ?_
    exact A_iret rfl dX12_machine_52
  · refine A_iload_n dX12_machine_14 rfl ?_
    refine A_callSp (a_X12_isNumber (l := l) _ _ ) lc_X12_334 rfl (by decide) (Nat.le_of_ble_eq_true rfl) rfl dX12_machine_15 ?_
    refine A_if_eq (tgt := 51) dX12_machine_18 (by decide) (fun _ => ?_) (fun _ => ?_)
    · refine A_iconst (v := (-1 : Int32)) dX12_machine_51 oI_m1 ?_
      exact A_iret rfl dX12_machine_52
    · refine A_iload_n dX12_machine_21 rfl ?_
      refine A_callSp (a_X12_isNumber (l := l) _ _ ) lc_X12_334 rfl (by decide) (Nat.le_of_ble_eq_true rfl) rfl dX12_machine_22 ?_
      refine A_if_eq (tgt := 51) dX12_machine_25 (by decide) (fun _ => ?_) (fun _ => ?_)
      · refine A_iconst (v := (-1 : Int32)) dX12_machine_51 oI_m1 ?_
        exact A_iret rfl dX12_machine_52
      · refine A_iload_n dX12_machine_28 rfl ?_
        refine A_callSp (a_X12_isNumber (l := l) _ _ ) lc_X12_334 rfl (by decide) (Nat.le_of_ble_eq_true rfl) rfl dX12_machine_29 ?_
        refine A_if_eq (tgt := 51) dX12_machine_32 (by decide) (fun _ => ?_) (fun _ => ?_)
        · refine A_iconst (v := (-1 : Int32)) dX12_machine_51 oI_m1 ?_
          exact A_iret rfl dX12_machine_52
        · refine A_iload dX12_machine_35 rfl ?_
          refine A_callSp (a_X12_isNumber (l := l) _ _ ) lc_X12_334 rfl (by decide) (Nat.le_of_ble_eq_true rfl) rfl dX12_machine_37 ?_
          refine A_if_eq (tgt := 51) dX12_machine_40 (by decide) (fun _ => ?_) (fun _ => ?_)
          · refine A_iconst (v := (-1 : Int32)) dX12_machine_51 oI_m1 ?_
            exact A_iret rfl dX12_machine_52
          · refine A_iload dX12_machine_43 rfl ?_
            refine A_callSp (a_X12_isNumber (l := l) _ _ ) lc_X12_334 rfl (by decide) (Nat.le_of_ble_eq_true rfl) rfl dX12_machine_45 ?_
            refine A_if_ne (tgt := 53) dX12_machine_48 (by decide) (fun _ => ?_) (fun _ => ?_)
            · refine A_iconst (v := (-1 : Int32)) dX12_machine_51 oI_m1 ?_
              exact A_iret rfl dX12_machine_52
            · refine A_aload_n dX12_machine_53 rfl ?_
              refine A_getr lf_X12_60 rfl rfl dX12_machine_54 ?_
              refine A_iconst (v := (5 : Int32)) dX12_machine_57 oI_5 ?_
              refine A_aload_n dX12_machine_58 rfl ?_
              refine A_geti lf_X12_331 rfl rfl dX12_machine_59 ?_
              refine A_imul dX12_machine_62 ?_
              refine A_iload_n dX12_machine_63 rfl ?_
              refine A_iast rfl dX12_machine_64 (fun _ => ?_)
              refine A_aload_n dX12_machine_65 rfl ?_
              refine A_getr lf_X12_60 rfl rfl dX12_machine_66 ?_
              refine A_iconst (v := (5 : Int32)) dX12_machine_69 oI_5 ?_
              refine A_aload_n dX12_machine_70 rfl ?_
              refine A_geti lf_X12_331 rfl rfl dX12_machine_71 ?_
              refine A_imul dX12_machine_74 ?_
              refine A_iconst (v := (1 : Int32)) dX12_machine_75 oI_1 ?_
              refine A_iadd dX12_machine_76 ?_
              refine A_iload_n dX12_machine_77 rfl ?_
              refine A_iast rfl dX12_machine_78 (fun _ => ?_)
              refine A_aload_n dX12_machine_79 rfl ?_
              refine A_getr lf_X12_60 rfl rfl dX12_machine_80 ?_
              refine A_iconst (v := (5 : Int32)) dX12_machine_83 oI_5 ?_
              refine A_aload_n dX12_machine_84 rfl ?_
              refine A_geti lf_X12_331 rfl rfl dX12_machine_85 ?_
              refine A_imul dX12_machine_88 ?_
              refine A_iconst (v := (2 : Int32)) dX12_machine_89 oI_2 ?_
              refine A_iadd dX12_machine_90 ?_
              refine A_iload_n dX12_machine_91 rfl ?_
              refine A_iast rfl dX12_machine_92 (fun _ => ?_)
              refine A_aload_n dX12_machine_93 rfl ?_
              refine A_getr lf_X12_60 rfl rfl dX12_machine_94 ?_
              refine A_iconst (v := (5 : Int32)) dX12_machine_97 oI_5 ?_
              refine A_aload_n dX12_machine_98 rfl ?_
              refine A_geti lf_X12_331 rfl rfl dX12_machine_99 ?_
              refine A_imul dX12_machine_102 ?_
              refine A_iconst (v := (3 : Int32)) dX12_machine_103 oI_3 ?_
              refine A_iadd dX12_machine_104 ?_
              refine A_iload dX12_machine_105 rfl ?_
              refine A_iast rfl dX12_machine_107 (fun _ => ?_)
              refine A_aload_n dX12_machine_108 rfl ?_
              refine A_getr lf_X12_60 rfl rfl dX12_machine_109 ?_
              refine A_iconst (v := (5 : Int32)) dX12_machine_112 oI_5 ?_
              refine A_aload_n dX12_machine_113 rfl ?_
              refine A_geti lf_X12_331 rfl rfl dX12_machine_114 ?_
              refine A_imul dX12_machine_117 ?_
              refine A_iconst (v := (4 : Int32)) dX12_machine_118 oI_4 ?_
              refine A_iadd dX12_machine_119 ?_
              refine A_iload dX12_machine_120 rfl ?_
              refine A_iast rfl dX12_machine_122 (fun _ => ?_)
              refine A_aload_n dX12_machine_123 rfl ?_
              refine A_dup dX12_machine_124 rfl ?_
              refine A_geti lf_X12_331 rfl rfl dX12_machine_125 ?_
              refine A_iconst (v := (1 : Int32)) dX12_machine_128 oI_1 ?_
              refine A_iadd dX12_machine_129 ?_
              refine A_puti lf_X12_331 rfl rfl dX12_machine_130 ?_
              refine A_aload_n dX12_machine_133 rfl ?_
              refine A_geti lf_X12_331 rfl rfl dX12_machine_134 ?_
              refine A_iconst (v := (1 : Int32)) dX12_machine_137 oI_1 ?_
              refine A_isub dX12_machine_138 ?_
              exact A_iret rfl dX12_machine_139
theorem a_X12_machine {l : Launch}  (x1 : Int32) (x2 : Int32) (x3 : Int32) (x4 : Int32) (x5 : Int32) (M : xM)  : AM SM l yX12_machine cX12_machine 6 (some .int) 2 ki [xr 0, xi x1, xi x2, xi x3, xi x4, xi x5] M (F_X12_machine  x1 x2 x3 x4 x5  M) :=
  AM.of (L0 := [some (xr 0), some (xi x1), some (xi x2), some (xi x3), some (xi x4), some (xi x5)]) (w_X12_machine (l := l) x1 x2 x3 x4 x5  M ) (by decide +kernel) rfl (Nat.le_of_ble_eq_true rfl) ⟨rfl, rfl, rfl, rfl, rfl, rfl, trivial⟩
