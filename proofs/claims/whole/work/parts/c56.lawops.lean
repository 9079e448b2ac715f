
/-- both sides answer alike, and what is behind them is alike again -/
def xOp (Rel : xM → xM → Prop) (a b : Option (Int32 × xM)) : Prop := ∃ v C R, a = some (v, C) ∧ b = some (v, R) ∧ Rel C R
section LAWK
variable {p : Program} {l : Launch} {e : Env} {s : State} {m : MethodId} {below : List Frame} {meth : Method} {c : Code} {b Lb : Nat} {xs : Nat → Int32}
variable {D : va_G} {cA : Nat → ClassId} {aC aM : Nat → Nat} {H : Heap} {locs : List Loc} {Q : State → Prop}
/-- what holds all along the law -/
def xLaw (p : Program) (s : State) (m : MethodId) (meth : Method) (c : Code) (b Lb : Nat) (xs : Nat → Int32) (D : va_G) (cA : Nat → ClassId) (aC aM : Nat → Nat) : Prop :=
  CallFix p m c code 4 s #[Value.ref b] lw_g RL ∧ va_K D vwCl (xTy cA) s ∧ xApart SC aC ∧ xApart SM aM ∧ (∀ q, xA SC aC q → ¬ xA SM aM q) ∧ (∀ q, xA SC aC q → s.heap.size ≤ q) ∧ (∀ q, xA SM aM q → s.heap.size ≤ q) ∧ yZ (fun q => s.heap.size ≤ q) aC s ∧ yZ (fun q => s.heap.size ≤ q) aM s
/-- both worlds lie in the heap -/
def xBoth (s : State) (D : va_G) (cA : Nat → ClassId) (aC aM : Nat → Nat) (C R : xM) (H : Heap) (locs : List Loc) : Prop :=
  va_P D vwCl (xW SC cA aC C) H ∧ va_P D vwCl (xW SM cA aM R) H ∧ va_S (fun q => s.heap.size ≤ q) s.heap H locs
theorem lcall {S : xS} {ad : Nat → Nat} {N N' : xM} {v : Int32} {y : MethodName} {bytes : ByteArray} {maxL dd n ci q index pc : Nat} {rt : Option FieldType} {as : List rV} {ks : List Nat} {ls : Array Slot} {rest : List Value} {st : List Value}
    (h0 : CallFix p m c code 4 s #[Value.ref b] lw_g RL) (hK : va_K D vwCl (xTy cA) s) (hap : xApart S ad) (hreg : ∀ q, xA S ad q → s.heap.size ≤ q) (hZ : yZ (fun q => s.heap.size ≤ q) ad s)
    (hP : va_P D vwCl (xW S cA ad N) H) (hS : va_S (fun q => s.heap.size ≤ q) s.heap H locs) (hls : ls.size = 4)
    (hM : AM S l y bytes maxL rt dd ki (xr q :: as) N (some (v, N'))) (hk : xlV RL index y bytes maxL rt n ci) (hq : S[q]? = some (.inr (ci, ks))) (hn : as.length = n) (hd : dd + 1 ≤ 1000) (hW : (rest.map fun v => v.category).sum ≤ 8) (hst : st = (as.map (xv ad)).reverse ++ .ref (ad q) :: rest) (hdg : decode code pc = .ok (.invokevirtual index, 3))
    (kk : ∀ (H1 : Heap) (locs1 : List Loc), va_P D vwCl (xW S cA ad N') H1 → va_S (fun q => s.heap.size ≤ q) s.heap H1 locs1 → (∀ q, q < H.size → ¬ xA S ad q → H1[q]? = H[q]?) → W p l e room_1 s m #[Value.ref b] below meth c H1 locs1 600000 7302250 Q (F0 m (pc + 3) ls (.int v :: rest))) : W p l e room_1 s m #[Value.ref b] below meth c H locs 600000 7302250 Q (F0 m pc ls st) := by
  obtain ⟨⟨hk1, hk2, hk3, hk4, hk5⟩, hk6, hk7, T, N2, hk8⟩ := hk
  have hts := h0.2.2.2.2
  have run := va_runV (p := p) (l := l) (e := e) (meth := meth) (R := room_1) (below := below) (locs := locs) (cells := 600000) (slots := 7302250) (n := n) (b := ad q) (C := y.cls) (As := as.map (xv ad)) (rest := rest) (H := H) (g := F0 m pc ls st) h0 (hM _ rfl D cA ad hap)
    ⟨callB_of n hts (xlw_ws hk3) rfl rfl rfl (hts _ hk2) (hts _ hk1) hk4 ⟨by simp only [xRm, room_1]; omega, by simp only [xRm, room_1]; omega⟩, hts _ hk6, hts _ hk7⟩
    ⟨xPc_blind, va_recv (q := (y.cls, T, N2)) hK hP hk8 (xW_at hq), fun U hU hWm => ⟨by simp [xv], by rw [hU]; exact hP, va_K.moved hWm.alike hK, (hZ.go hS hU hWm).x hreg⟩⟩ rfl (by simpa using hn) hls hst (lv_room hW) hdg ⟨Nat.le_refl _, Nat.le_refl _⟩
  intro T0 hT X
  obtain ⟨v2, st₀, t, T', L, h0', X', hL, e1, e2, ⟨⟨hv, hP1, -⟩, hz, hkk⟩, st2⟩ := run T0 hT X
  have hv' : v2 = some (.int v) := by injection hv
  subst hv'
  rw [h0'] at hz hkk
  obtain ⟨t2, a1, b1⟩ := kk T'.heap (locs ++ L) (by rw [e1]; exact hP1)
    ⟨Nat.le_trans hS.1 (by rw [e1]; exact hz), fun q h1 h2 => by rw [e1, hkk q (Nat.lt_of_lt_of_le h1 hS.1) (fun z => h2 (hreg q z))]; exact hS.2.1 q h1 h2, fun q hq => by
      rcases List.mem_append.mp hq with h | h
      · exact hS.2.2 q h
      · exact hreg _ (hL q h)⟩ (fun q h1 h2 => by rw [e1]; exact hkk q h1 h2) T' rfl X'
  exact ⟨t2, st2 t2 a1, b1⟩
theorem xother {S : xS} {ad : Nat → Nat} {N : xM} {H H1 : Heap} {B : Nat → Prop} (hP : va_P D vwCl (xW S cA ad N) H) (hd : ∀ q, xA S ad q → ¬ B q) (h : ∀ q, q < H.size → ¬ B q → H1[q]? = H[q]?) : va_P D vwCl (xW S cA ad N) H1 := by
  refine hP.kept fun k q hq => h _ (hP k q hq).lt (hd _ ?_)
  obtain ⟨c, h1, rfl⟩ := xW_get hq
  exact ⟨k, (List.getElem?_eq_some_iff.mp h1).1, rfl⟩
end LAWK
theorem ll_21 : xlV RL 21 yX11_office cX11_office 3 (some .int) 2 10 := ⟨⟨lw_gm 498 (by decide +kernel) rfl, lw_gm 104 (by decide +kernel) rfl, lw_gm 501 (by decide +kernel) rfl, ⟨by decide, by decide, by decide +kernel⟩, by decide⟩, lw_gm 499 (by decide +kernel) rfl, lw_gm 500 (by decide +kernel) rfl, _, _, rfl⟩
theorem ll_25 : xlV RL 25 yX12_office cX12_office 4 (some .int) 2 11 := ⟨⟨lw_gm 1632 (by decide +kernel) rfl, lw_gm 117 (by decide +kernel) rfl, lw_gm 1635 (by decide +kernel) rfl, ⟨by decide, by decide, by decide +kernel⟩, by decide⟩, lw_gm 1633 (by decide +kernel) rfl, lw_gm 1634 (by decide +kernel) rfl, _, _, rfl⟩
theorem ll_26 : xlV RL 26 yX11_strap cX11_strap 3 (some .int) 2 10 := ⟨⟨lw_gm 528 (by decide +kernel) rfl, lw_gm 104 (by decide +kernel) rfl, lw_gm 531 (by decide +kernel) rfl, ⟨by decide, by decide, by decide +kernel⟩, by decide⟩, lw_gm 529 (by decide +kernel) rfl, lw_gm 530 (by decide +kernel) rfl, _, _, rfl⟩
theorem ll_29 : xlV RL 29 yX12_strap cX12_strap 3 (some .int) 2 11 := ⟨⟨lw_gm 1647 (by decide +kernel) rfl, lw_gm 117 (by decide +kernel) rfl, lw_gm 1650 (by decide +kernel) rfl, ⟨by decide, by decide, by decide +kernel⟩, by decide⟩, lw_gm 1648 (by decide +kernel) rfl, lw_gm 1649 (by decide +kernel) rfl, _, _, rfl⟩
theorem ll_30 : xlV RL 30 yX11_unstrap cX11_unstrap 1 (some .int) 0 10 := ⟨⟨lw_gm 536 (by decide +kernel) rfl, lw_gm 104 (by decide +kernel) rfl, lw_gm 539 (by decide +kernel) rfl, ⟨by decide, by decide, by decide +kernel⟩, by decide⟩, lw_gm 537 (by decide +kernel) rfl, lw_gm 538 (by decide +kernel) rfl, _, _, rfl⟩
theorem ll_34 : xlV RL 34 yX12_unstrap cX12_unstrap 1 (some .int) 0 11 := ⟨⟨lw_gm 1651 (by decide +kernel) rfl, lw_gm 117 (by decide +kernel) rfl, lw_gm 1654 (by decide +kernel) rfl, ⟨by decide, by decide, by decide +kernel⟩, by decide⟩, lw_gm 1652 (by decide +kernel) rfl, lw_gm 1653 (by decide +kernel) rfl, _, _, rfl⟩
theorem ll_35 : xlV RL 35 yX11_may cX11_may 4 (some .int) 2 10 := ⟨⟨lw_gm 544 (by decide +kernel) rfl, lw_gm 104 (by decide +kernel) rfl, lw_gm 547 (by decide +kernel) rfl, ⟨by decide, by decide, by decide +kernel⟩, by decide⟩, lw_gm 545 (by decide +kernel) rfl, lw_gm 546 (by decide +kernel) rfl, _, _, rfl⟩
theorem ll_38 : xlV RL 38 yX12_may cX12_may 3 (some .int) 2 11 := ⟨⟨lw_gm 1655 (by decide +kernel) rfl, lw_gm 117 (by decide +kernel) rfl, lw_gm 1658 (by decide +kernel) rfl, ⟨by decide, by decide, by decide +kernel⟩, by decide⟩, lw_gm 1656 (by decide +kernel) rfl, lw_gm 1657 (by decide +kernel) rfl, _, _, rfl⟩
theorem ll_39 : xlV RL 39 yX11_proof cX11_proof 2 (some .int) 1 10 := ⟨⟨lw_gm 574 (by decide +kernel) rfl, lw_gm 104 (by decide +kernel) rfl, lw_gm 577 (by decide +kernel) rfl, ⟨by decide, by decide, by decide +kernel⟩, by decide⟩, lw_gm 575 (by decide +kernel) rfl, lw_gm 576 (by decide +kernel) rfl, _, _, rfl⟩
theorem ll_43 : xlV RL 43 yX12_proof cX12_proof 4 (some .int) 1 11 := ⟨⟨lw_gm 1667 (by decide +kernel) rfl, lw_gm 117 (by decide +kernel) rfl, lw_gm 1670 (by decide +kernel) rfl, ⟨by decide, by decide, by decide +kernel⟩, by decide⟩, lw_gm 1668 (by decide +kernel) rfl, lw_gm 1669 (by decide +kernel) rfl, _, _, rfl⟩
theorem ll_44 : xlV RL 44 yX11_rows cX11_rows 1 (some .int) 0 10 := ⟨⟨lw_gm 603 (by decide +kernel) rfl, lw_gm 104 (by decide +kernel) rfl, lw_gm 606 (by decide +kernel) rfl, ⟨by decide, by decide, by decide +kernel⟩, by decide⟩, lw_gm 604 (by decide +kernel) rfl, lw_gm 605 (by decide +kernel) rfl, _, _, rfl⟩
theorem ll_47 : xlV RL 47 yX12_rows cX12_rows 3 (some .int) 0 11 := ⟨⟨lw_gm 1671 (by decide +kernel) rfl, lw_gm 117 (by decide +kernel) rfl, lw_gm 1674 (by decide +kernel) rfl, ⟨by decide, by decide, by decide +kernel⟩, by decide⟩, lw_gm 1672 (by decide +kernel) rfl, lw_gm 1673 (by decide +kernel) rfl, _, _, rfl⟩
theorem ll_48 : xlV RL 48 yX11_need cX11_need 1 (some .int) 0 10 := ⟨⟨lw_gm 611 (by decide +kernel) rfl, lw_gm 104 (by decide +kernel) rfl, lw_gm 614 (by decide +kernel) rfl, ⟨by decide, by decide, by decide +kernel⟩, by decide⟩, lw_gm 612 (by decide +kernel) rfl, lw_gm 613 (by decide +kernel) rfl, _, _, rfl⟩
theorem ll_51 : xlV RL 51 yX12_need cX12_need 3 (some .int) 0 11 := ⟨⟨lw_gm 1675 (by decide +kernel) rfl, lw_gm 117 (by decide +kernel) rfl, lw_gm 1678 (by decide +kernel) rfl, ⟨by decide, by decide, by decide +kernel⟩, by decide⟩, lw_gm 1676 (by decide +kernel) rfl, lw_gm 1677 (by decide +kernel) rfl, _, _, rfl⟩
theorem ll_52 : xlV RL 52 yX11_orders cX11_orders 2 (some .int) 1 10 := ⟨⟨lw_gm 619 (by decide +kernel) rfl, lw_gm 104 (by decide +kernel) rfl, lw_gm 622 (by decide +kernel) rfl, ⟨by decide, by decide, by decide +kernel⟩, by decide⟩, lw_gm 620 (by decide +kernel) rfl, lw_gm 621 (by decide +kernel) rfl, _, _, rfl⟩
theorem ll_55 : xlV RL 55 yX12_orders cX12_orders 4 (some .int) 1 11 := ⟨⟨lw_gm 1686 (by decide +kernel) rfl, lw_gm 117 (by decide +kernel) rfl, lw_gm 1689 (by decide +kernel) rfl, ⟨by decide, by decide, by decide +kernel⟩, by decide⟩, lw_gm 1687 (by decide +kernel) rfl, lw_gm 1688 (by decide +kernel) rfl, _, _, rfl⟩
theorem ll_56 : xlV RL 56 yX11_feed cX11_feed 7 (some .int) 5 10 := ⟨⟨lw_gm 628 (by decide +kernel) rfl, lw_gm 104 (by decide +kernel) rfl, lw_gm 631 (by decide +kernel) rfl, ⟨by decide, by decide, by decide +kernel⟩, by decide⟩, lw_gm 629 (by decide +kernel) rfl, lw_gm 630 (by decide +kernel) rfl, _, _, rfl⟩
theorem ll_60 : xlV RL 60 yX12_feed cX12_feed 6 (some .int) 5 11 := ⟨⟨lw_gm 1690 (by decide +kernel) rfl, lw_gm 117 (by decide +kernel) rfl, lw_gm 1693 (by decide +kernel) rfl, ⟨by decide, by decide, by decide +kernel⟩, by decide⟩, lw_gm 1691 (by decide +kernel) rfl, lw_gm 1692 (by decide +kernel) rfl, _, _, rfl⟩
theorem ll_61 : xlV RL 61 yX11_end cX11_end 2 (some .boolean) 1 10 := ⟨⟨lw_gm 640 (by decide +kernel) rfl, lw_gm 104 (by decide +kernel) rfl, lw_gm 643 (by decide +kernel) rfl, ⟨by decide, by decide, by decide +kernel⟩, by decide⟩, lw_gm 641 (by decide +kernel) rfl, lw_gm 642 (by decide +kernel) rfl, _, _, rfl⟩
theorem ll_65 : xlV RL 65 yX12_end cX12_end 2 (some .boolean) 1 11 := ⟨⟨lw_gm 1701 (by decide +kernel) rfl, lw_gm 117 (by decide +kernel) rfl, lw_gm 1704 (by decide +kernel) rfl, ⟨by decide, by decide, by decide +kernel⟩, by decide⟩, lw_gm 1702 (by decide +kernel) rfl, lw_gm 1703 (by decide +kernel) rfl, _, _, rfl⟩
theorem ll_66 : xlV RL 66 yX11_fault cX11_fault 1 (some .int) 0 10 := ⟨⟨lw_gm 644 (by decide +kernel) rfl, lw_gm 104 (by decide +kernel) rfl, lw_gm 647 (by decide +kernel) rfl, ⟨by decide, by decide, by decide +kernel⟩, by decide⟩, lw_gm 645 (by decide +kernel) rfl, lw_gm 646 (by decide +kernel) rfl, _, _, rfl⟩
theorem ll_69 : xlV RL 69 yX12_fault cX12_fault 1 (some .int) 0 11 := ⟨⟨lw_gm 1705 (by decide +kernel) rfl, lw_gm 117 (by decide +kernel) rfl, lw_gm 1708 (by decide +kernel) rfl, ⟨by decide, by decide, by decide +kernel⟩, by decide⟩, lw_gm 1706 (by decide +kernel) rfl, lw_gm 1707 (by decide +kernel) rfl, _, _, rfl⟩
theorem ll_70 : xlV RL 70 yX11_law cX11_law 1 (some .int) 0 10 := ⟨⟨lw_gm 719 (by decide +kernel) rfl, lw_gm 104 (by decide +kernel) rfl, lw_gm 722 (by decide +kernel) rfl, ⟨by decide, by decide, by decide +kernel⟩, by decide⟩, lw_gm 720 (by decide +kernel) rfl, lw_gm 721 (by decide +kernel) rfl, _, _, rfl⟩
theorem ll_73 : xlV RL 73 yX12_law cX12_law 2 (some .int) 0 11 := ⟨⟨lw_gm 1826 (by decide +kernel) rfl, lw_gm 117 (by decide +kernel) rfl, lw_gm 1829 (by decide +kernel) rfl, ⟨by decide, by decide, by decide +kernel⟩, by decide⟩, lw_gm 1827 (by decide +kernel) rfl, lw_gm 1828 (by decide +kernel) rfl, _, _, rfl⟩
theorem ll_74 : xlV RL 74 yX11_use cX11_use 3 (some .boolean) 1 10 := ⟨⟨lw_gm 734 (by decide +kernel) rfl, lw_gm 104 (by decide +kernel) rfl, lw_gm 737 (by decide +kernel) rfl, ⟨by decide, by decide, by decide +kernel⟩, by decide⟩, lw_gm 735 (by decide +kernel) rfl, lw_gm 736 (by decide +kernel) rfl, _, _, rfl⟩
theorem ll_77 : xlV RL 77 yX12_use cX12_use 2 (some .boolean) 1 11 := ⟨⟨lw_gm 1830 (by decide +kernel) rfl, lw_gm 117 (by decide +kernel) rfl, lw_gm 1833 (by decide +kernel) rfl, ⟨by decide, by decide, by decide +kernel⟩, by decide⟩, lw_gm 1831 (by decide +kernel) rfl, lw_gm 1832 (by decide +kernel) rfl, _, _, rfl⟩
theorem ll_78 : xlV RL 78 yX11_machine cX11_machine 7 (some .int) 5 10 := ⟨⟨lw_gm 764 (by decide +kernel) rfl, lw_gm 104 (by decide +kernel) rfl, lw_gm 767 (by decide +kernel) rfl, ⟨by decide, by decide, by decide +kernel⟩, by decide⟩, lw_gm 765 (by decide +kernel) rfl, lw_gm 766 (by decide +kernel) rfl, _, _, rfl⟩
theorem ll_81 : xlV RL 81 yX12_machine cX12_machine 6 (some .int) 5 11 := ⟨⟨lw_gm 1834 (by decide +kernel) rfl, lw_gm 117 (by decide +kernel) rfl, lw_gm 1837 (by decide +kernel) rfl, ⟨by decide, by decide, by decide +kernel⟩, by decide⟩, lw_gm 1835 (by decide +kernel) rfl, lw_gm 1836 (by decide +kernel) rfl, _, _, rfl⟩
theorem ll_82 : xlV RL 82 yX11_voters cX11_voters 2 (some .int) 1 10 := ⟨⟨lw_gm 776 (by decide +kernel) rfl, lw_gm 104 (by decide +kernel) rfl, lw_gm 779 (by decide +kernel) rfl, ⟨by decide, by decide, by decide +kernel⟩, by decide⟩, lw_gm 777 (by decide +kernel) rfl, lw_gm 778 (by decide +kernel) rfl, _, _, rfl⟩
theorem ll_85 : xlV RL 85 yX12_voters cX12_voters 2 (some .int) 1 11 := ⟨⟨lw_gm 1841 (by decide +kernel) rfl, lw_gm 117 (by decide +kernel) rfl, lw_gm 1844 (by decide +kernel) rfl, ⟨by decide, by decide, by decide +kernel⟩, by decide⟩, lw_gm 1842 (by decide +kernel) rfl, lw_gm 1843 (by decide +kernel) rfl, _, _, rfl⟩
theorem ll_86 : xlV RL 86 yX11_agree cX11_agree 2 (some .int) 1 10 := ⟨⟨lw_gm 781 (by decide +kernel) rfl, lw_gm 104 (by decide +kernel) rfl, lw_gm 784 (by decide +kernel) rfl, ⟨by decide, by decide, by decide +kernel⟩, by decide⟩, lw_gm 782 (by decide +kernel) rfl, lw_gm 783 (by decide +kernel) rfl, _, _, rfl⟩
theorem ll_89 : xlV RL 89 yX12_agree cX12_agree 4 (some .int) 1 11 := ⟨⟨lw_gm 1853 (by decide +kernel) rfl, lw_gm 117 (by decide +kernel) rfl, lw_gm 1856 (by decide +kernel) rfl, ⟨by decide, by decide, by decide +kernel⟩, by decide⟩, lw_gm 1854 (by decide +kernel) rfl, lw_gm 1855 (by decide +kernel) rfl, _, _, rfl⟩
theorem ll_90 : xlV RL 90 yX11_show cX11_show 4 (some .boolean) 3 10 := ⟨⟨lw_gm 791 (by decide +kernel) rfl, lw_gm 104 (by decide +kernel) rfl, lw_gm 794 (by decide +kernel) rfl, ⟨by decide, by decide, by decide +kernel⟩, by decide⟩, lw_gm 792 (by decide +kernel) rfl, lw_gm 793 (by decide +kernel) rfl, _, _, rfl⟩
theorem ll_94 : xlV RL 94 yX12_show cX12_show 4 (some .boolean) 3 11 := ⟨⟨lw_gm 1857 (by decide +kernel) rfl, lw_gm 117 (by decide +kernel) rfl, lw_gm 1860 (by decide +kernel) rfl, ⟨by decide, by decide, by decide +kernel⟩, by decide⟩, lw_gm 1858 (by decide +kernel) rfl, lw_gm 1859 (by decide +kernel) rfl, _, _, rfl⟩
theorem ll_95 : xlV RL 95 yX11_trouble cX11_trouble 5 (some .int) 4 10 := ⟨⟨lw_gm 811 (by decide +kernel) rfl, lw_gm 104 (by decide +kernel) rfl, lw_gm 814 (by decide +kernel) rfl, ⟨by decide, by decide, by decide +kernel⟩, by decide⟩, lw_gm 812 (by decide +kernel) rfl, lw_gm 813 (by decide +kernel) rfl, _, _, rfl⟩
theorem ll_99 : xlV RL 99 yX12_trouble cX12_trouble 7 (some .int) 4 11 := ⟨⟨lw_gm 1865 (by decide +kernel) rfl, lw_gm 117 (by decide +kernel) rfl, lw_gm 1868 (by decide +kernel) rfl, ⟨by decide, by decide, by decide +kernel⟩, by decide⟩, lw_gm 1866 (by decide +kernel) rfl, lw_gm 1867 (by decide +kernel) rfl, _, _, rfl⟩
theorem ll_100 : xlV RL 100 yX11_fitting cX11_fitting 3 (some .int) 2 10 := ⟨⟨lw_gm 832 (by decide +kernel) rfl, lw_gm 104 (by decide +kernel) rfl, lw_gm 835 (by decide +kernel) rfl, ⟨by decide, by decide, by decide +kernel⟩, by decide⟩, lw_gm 833 (by decide +kernel) rfl, lw_gm 834 (by decide +kernel) rfl, _, _, rfl⟩
theorem ll_103 : xlV RL 103 yX12_fitting cX12_fitting 5 (some .int) 2 11 := ⟨⟨lw_gm 1869 (by decide +kernel) rfl, lw_gm 117 (by decide +kernel) rfl, lw_gm 1872 (by decide +kernel) rfl, ⟨by decide, by decide, by decide +kernel⟩, by decide⟩, lw_gm 1870 (by decide +kernel) rfl, lw_gm 1871 (by decide +kernel) rfl, _, _, rfl⟩
theorem ll_104 : xlV RL 104 yX11_sets cX11_sets 3 (some .int) 2 10 := ⟨⟨lw_gm 916 (by decide +kernel) rfl, lw_gm 104 (by decide +kernel) rfl, lw_gm 919 (by decide +kernel) rfl, ⟨by decide, by decide, by decide +kernel⟩, by decide⟩, lw_gm 917 (by decide +kernel) rfl, lw_gm 918 (by decide +kernel) rfl, _, _, rfl⟩
theorem ll_107 : xlV RL 107 yX12_sets cX12_sets 7 (some .int) 2 11 := ⟨⟨lw_gm 1898 (by decide +kernel) rfl, lw_gm 117 (by decide +kernel) rfl, lw_gm 1901 (by decide +kernel) rfl, ⟨by decide, by decide, by decide +kernel⟩, by decide⟩, lw_gm 1899 (by decide +kernel) rfl, lw_gm 1900 (by decide +kernel) rfl, _, _, rfl⟩
theorem ll_108 : xlV RL 108 yX11_span cX11_span 4 (some .int) 3 10 := ⟨⟨lw_gm 933 (by decide +kernel) rfl, lw_gm 104 (by decide +kernel) rfl, lw_gm 936 (by decide +kernel) rfl, ⟨by decide, by decide, by decide +kernel⟩, by decide⟩, lw_gm 934 (by decide +kernel) rfl, lw_gm 935 (by decide +kernel) rfl, _, _, rfl⟩
theorem ll_112 : xlV RL 112 yX12_span cX12_span 4 (some .int) 3 11 := ⟨⟨lw_gm 1906 (by decide +kernel) rfl, lw_gm 117 (by decide +kernel) rfl, lw_gm 1909 (by decide +kernel) rfl, ⟨by decide, by decide, by decide +kernel⟩, by decide⟩, lw_gm 1907 (by decide +kernel) rfl, lw_gm 1908 (by decide +kernel) rfl, _, _, rfl⟩
theorem ll_113 : xlV RL 113 yX11_open cX11_open 3 (some .boolean) 2 10 := ⟨⟨lw_gm 959 (by decide +kernel) rfl, lw_gm 104 (by decide +kernel) rfl, lw_gm 962 (by decide +kernel) rfl, ⟨by decide, by decide, by decide +kernel⟩, by decide⟩, lw_gm 960 (by decide +kernel) rfl, lw_gm 961 (by decide +kernel) rfl, _, _, rfl⟩
theorem ll_117 : xlV RL 117 yX12_open cX12_open 3 (some .boolean) 2 11 := ⟨⟨lw_gm 1926 (by decide +kernel) rfl, lw_gm 117 (by decide +kernel) rfl, lw_gm 1929 (by decide +kernel) rfl, ⟨by decide, by decide, by decide +kernel⟩, by decide⟩, lw_gm 1927 (by decide +kernel) rfl, lw_gm 1928 (by decide +kernel) rfl, _, _, rfl⟩
theorem ll_118 : xlV RL 118 yX11_total cX11_total 3 (some .int) 2 10 := ⟨⟨lw_gm 964 (by decide +kernel) rfl, lw_gm 104 (by decide +kernel) rfl, lw_gm 967 (by decide +kernel) rfl, ⟨by decide, by decide, by decide +kernel⟩, by decide⟩, lw_gm 965 (by decide +kernel) rfl, lw_gm 966 (by decide +kernel) rfl, _, _, rfl⟩
theorem ll_121 : xlV RL 121 yX12_total cX12_total 6 (some .int) 2 11 := ⟨⟨lw_gm 1930 (by decide +kernel) rfl, lw_gm 117 (by decide +kernel) rfl, lw_gm 1933 (by decide +kernel) rfl, ⟨by decide, by decide, by decide +kernel⟩, by decide⟩, lw_gm 1931 (by decide +kernel) rfl, lw_gm 1932 (by decide +kernel) rfl, _, _, rfl⟩
theorem ll_122 : xlV RL 122 yX11_ahead cX11_ahead 3 (some .int) 2 10 := ⟨⟨lw_gm 973 (by decide +kernel) rfl, lw_gm 104 (by decide +kernel) rfl, lw_gm 976 (by decide +kernel) rfl, ⟨by decide, by decide, by decide +kernel⟩, by decide⟩, lw_gm 974 (by decide +kernel) rfl, lw_gm 975 (by decide +kernel) rfl, _, _, rfl⟩
theorem ll_125 : xlV RL 125 yX12_ahead cX12_ahead 3 (some .int) 2 11 := ⟨⟨lw_gm 1934 (by decide +kernel) rfl, lw_gm 117 (by decide +kernel) rfl, lw_gm 1937 (by decide +kernel) rfl, ⟨by decide, by decide, by decide +kernel⟩, by decide⟩, lw_gm 1935 (by decide +kernel) rfl, lw_gm 1936 (by decide +kernel) rfl, _, _, rfl⟩
theorem ll_126 : xlV RL 126 yX11_wins cX11_wins 2 (some .int) 1 10 := ⟨⟨lw_gm 1003 (by decide +kernel) rfl, lw_gm 104 (by decide +kernel) rfl, lw_gm 1006 (by decide +kernel) rfl, ⟨by decide, by decide, by decide +kernel⟩, by decide⟩, lw_gm 1004 (by decide +kernel) rfl, lw_gm 1005 (by decide +kernel) rfl, _, _, rfl⟩
theorem ll_129 : xlV RL 129 yX12_wins cX12_wins 3 (some .int) 1 11 := ⟨⟨lw_gm 1951 (by decide +kernel) rfl, lw_gm 117 (by decide +kernel) rfl, lw_gm 1954 (by decide +kernel) rfl, ⟨by decide, by decide, by decide +kernel⟩, by decide⟩, lw_gm 1952 (by decide +kernel) rfl, lw_gm 1953 (by decide +kernel) rfl, _, _, rfl⟩
theorem ll_130 : xlV RL 130 yX11_cost cX11_cost 3 (some .boolean) 2 10 := ⟨⟨lw_gm 1016 (by decide +kernel) rfl, lw_gm 104 (by decide +kernel) rfl, lw_gm 1019 (by decide +kernel) rfl, ⟨by decide, by decide, by decide +kernel⟩, by decide⟩, lw_gm 1017 (by decide +kernel) rfl, lw_gm 1018 (by decide +kernel) rfl, _, _, rfl⟩
theorem ll_133 : xlV RL 133 yX12_cost cX12_cost 3 (some .boolean) 2 11 := ⟨⟨lw_gm 1967 (by decide +kernel) rfl, lw_gm 117 (by decide +kernel) rfl, lw_gm 1970 (by decide +kernel) rfl, ⟨by decide, by decide, by decide +kernel⟩, by decide⟩, lw_gm 1968 (by decide +kernel) rfl, lw_gm 1969 (by decide +kernel) rfl, _, _, rfl⟩
theorem ll_134 : xlV RL 134 yX11_till cX11_till 4 (some .int) 2 10 := ⟨⟨lw_gm 1020 (by decide +kernel) rfl, lw_gm 104 (by decide +kernel) rfl, lw_gm 1023 (by decide +kernel) rfl, ⟨by decide, by decide, by decide +kernel⟩, by decide⟩, lw_gm 1021 (by decide +kernel) rfl, lw_gm 1022 (by decide +kernel) rfl, _, _, rfl⟩
theorem ll_137 : xlV RL 137 yX12_till cX12_till 7 (some .int) 2 11 := ⟨⟨lw_gm 1971 (by decide +kernel) rfl, lw_gm 117 (by decide +kernel) rfl, lw_gm 1974 (by decide +kernel) rfl, ⟨by decide, by decide, by decide +kernel⟩, by decide⟩, lw_gm 1972 (by decide +kernel) rfl, lw_gm 1973 (by decide +kernel) rfl, _, _, rfl⟩
theorem ll_138 : xlV RL 138 yX11_test cX11_test 3 (some .int) 2 10 := ⟨⟨lw_gm 1048 (by decide +kernel) rfl, lw_gm 104 (by decide +kernel) rfl, lw_gm 1051 (by decide +kernel) rfl, ⟨by decide, by decide, by decide +kernel⟩, by decide⟩, lw_gm 1049 (by decide +kernel) rfl, lw_gm 1050 (by decide +kernel) rfl, _, _, rfl⟩
theorem ll_141 : xlV RL 141 yX12_test cX12_test 3 (some .int) 2 11 := ⟨⟨lw_gm 1987 (by decide +kernel) rfl, lw_gm 117 (by decide +kernel) rfl, lw_gm 1990 (by decide +kernel) rfl, ⟨by decide, by decide, by decide +kernel⟩, by decide⟩, lw_gm 1988 (by decide +kernel) rfl, lw_gm 1989 (by decide +kernel) rfl, _, _, rfl⟩
theorem ll_142 : xlV RL 142 yX11_sees cX11_sees 3 (some .int) 2 10 := ⟨⟨lw_gm 1059 (by decide +kernel) rfl, lw_gm 104 (by decide +kernel) rfl, lw_gm 1062 (by decide +kernel) rfl, ⟨by decide, by decide, by decide +kernel⟩, by decide⟩, lw_gm 1060 (by decide +kernel) rfl, lw_gm 1061 (by decide +kernel) rfl, _, _, rfl⟩
theorem ll_145 : xlV RL 145 yX12_sees cX12_sees 3 (some .int) 2 11 := ⟨⟨lw_gm 1991 (by decide +kernel) rfl, lw_gm 117 (by decide +kernel) rfl, lw_gm 1994 (by decide +kernel) rfl, ⟨by decide, by decide, by decide +kernel⟩, by decide⟩, lw_gm 1992 (by decide +kernel) rfl, lw_gm 1993 (by decide +kernel) rfl, _, _, rfl⟩
theorem ll_146 : xlV RL 146 yX11_cover cX11_cover 2 (some .int) 1 10 := ⟨⟨lw_gm 1095 (by decide +kernel) rfl, lw_gm 104 (by decide +kernel) rfl, lw_gm 1098 (by decide +kernel) rfl, ⟨by decide, by decide, by decide +kernel⟩, by decide⟩, lw_gm 1096 (by decide +kernel) rfl, lw_gm 1097 (by decide +kernel) rfl, _, _, rfl⟩
theorem ll_149 : xlV RL 149 yX12_cover cX12_cover 5 (some .int) 1 11 := ⟨⟨lw_gm 2011 (by decide +kernel) rfl, lw_gm 117 (by decide +kernel) rfl, lw_gm 2014 (by decide +kernel) rfl, ⟨by decide, by decide, by decide +kernel⟩, by decide⟩, lw_gm 2012 (by decide +kernel) rfl, lw_gm 2013 (by decide +kernel) rfl, _, _, rfl⟩
theorem ll_152 : xlV RL 152 yX11_name cX11_name 7 (some .int) 4 10 := ⟨⟨lw_gm 1110 (by decide +kernel) rfl, lw_gm 104 (by decide +kernel) rfl, lw_gm 1113 (by decide +kernel) rfl, ⟨by decide, by decide, by decide +kernel⟩, by decide⟩, lw_gm 1111 (by decide +kernel) rfl, lw_gm 1112 (by decide +kernel) rfl, _, _, rfl⟩
theorem ll_156 : xlV RL 156 yX12_name cX12_name 6 (some .int) 4 11 := ⟨⟨lw_gm 2019 (by decide +kernel) rfl, lw_gm 117 (by decide +kernel) rfl, lw_gm 2022 (by decide +kernel) rfl, ⟨by decide, by decide, by decide +kernel⟩, by decide⟩, lw_gm 2020 (by decide +kernel) rfl, lw_gm 2021 (by decide +kernel) rfl, _, _, rfl⟩
theorem ll_157 : xlV RL 157 yX11_first cX11_first 9 (some .int) 3 10 := ⟨⟨lw_gm 1126 (by decide +kernel) rfl, lw_gm 104 (by decide +kernel) rfl, lw_gm 1129 (by decide +kernel) rfl, ⟨by decide, by decide, by decide +kernel⟩, by decide⟩, lw_gm 1127 (by decide +kernel) rfl, lw_gm 1128 (by decide +kernel) rfl, _, _, rfl⟩
theorem ll_161 : xlV RL 161 yX12_first cX12_first 7 (some .int) 3 11 := ⟨⟨lw_gm 2033 (by decide +kernel) rfl, lw_gm 117 (by decide +kernel) rfl, lw_gm 2036 (by decide +kernel) rfl, ⟨by decide, by decide, by decide +kernel⟩, by decide⟩, lw_gm 2034 (by decide +kernel) rfl, lw_gm 2035 (by decide +kernel) rfl, _, _, rfl⟩
theorem ll_162 : xlV RL 162 yX11_known cX11_known 1 (some .int) 0 10 := ⟨⟨lw_gm 1130 (by decide +kernel) rfl, lw_gm 104 (by decide +kernel) rfl, lw_gm 1133 (by decide +kernel) rfl, ⟨by decide, by decide, by decide +kernel⟩, by decide⟩, lw_gm 1131 (by decide +kernel) rfl, lw_gm 1132 (by decide +kernel) rfl, _, _, rfl⟩
theorem ll_165 : xlV RL 165 yX12_known cX12_known 2 (some .int) 0 11 := ⟨⟨lw_gm 2037 (by decide +kernel) rfl, lw_gm 117 (by decide +kernel) rfl, lw_gm 2040 (by decide +kernel) rfl, ⟨by decide, by decide, by decide +kernel⟩, by decide⟩, lw_gm 2038 (by decide +kernel) rfl, lw_gm 2039 (by decide +kernel) rfl, _, _, rfl⟩
theorem ll_166 : xlV RL 166 yX11_read cX11_read 3 (some .boolean) 2 10 := ⟨⟨lw_gm 1154 (by decide +kernel) rfl, lw_gm 104 (by decide +kernel) rfl, lw_gm 1157 (by decide +kernel) rfl, ⟨by decide, by decide, by decide +kernel⟩, by decide⟩, lw_gm 1155 (by decide +kernel) rfl, lw_gm 1156 (by decide +kernel) rfl, _, _, rfl⟩
theorem ll_169 : xlV RL 169 yX12_read cX12_read 5 (some .boolean) 2 11 := ⟨⟨lw_gm 2049 (by decide +kernel) rfl, lw_gm 117 (by decide +kernel) rfl, lw_gm 2052 (by decide +kernel) rfl, ⟨by decide, by decide, by decide +kernel⟩, by decide⟩, lw_gm 2050 (by decide +kernel) rfl, lw_gm 2051 (by decide +kernel) rfl, _, _, rfl⟩
theorem ll_170 : xlV RL 170 yX11_limit cX11_limit 2 (some .boolean) 1 10 := ⟨⟨lw_gm 1166 (by decide +kernel) rfl, lw_gm 104 (by decide +kernel) rfl, lw_gm 1169 (by decide +kernel) rfl, ⟨by decide, by decide, by decide +kernel⟩, by decide⟩, lw_gm 1167 (by decide +kernel) rfl, lw_gm 1168 (by decide +kernel) rfl, _, _, rfl⟩
theorem ll_173 : xlV RL 173 yX12_limit cX12_limit 2 (some .boolean) 1 11 := ⟨⟨lw_gm 2056 (by decide +kernel) rfl, lw_gm 117 (by decide +kernel) rfl, lw_gm 2059 (by decide +kernel) rfl, ⟨by decide, by decide, by decide +kernel⟩, by decide⟩, lw_gm 2057 (by decide +kernel) rfl, lw_gm 2058 (by decide +kernel) rfl, _, _, rfl⟩
theorem ll_174 : xlV RL 174 yX11_far cX11_far 4 (some .int) 3 10 := ⟨⟨lw_gm 1170 (by decide +kernel) rfl, lw_gm 104 (by decide +kernel) rfl, lw_gm 1173 (by decide +kernel) rfl, ⟨by decide, by decide, by decide +kernel⟩, by decide⟩, lw_gm 1171 (by decide +kernel) rfl, lw_gm 1172 (by decide +kernel) rfl, _, _, rfl⟩
theorem ll_177 : xlV RL 177 yX12_far cX12_far 4 (some .int) 3 11 := ⟨⟨lw_gm 2060 (by decide +kernel) rfl, lw_gm 117 (by decide +kernel) rfl, lw_gm 2063 (by decide +kernel) rfl, ⟨by decide, by decide, by decide +kernel⟩, by decide⟩, lw_gm 2061 (by decide +kernel) rfl, lw_gm 2062 (by decide +kernel) rfl, _, _, rfl⟩
theorem ll_178 : xlV RL 178 yX11_goes cX11_goes 3 (some .int) 2 10 := ⟨⟨lw_gm 1186 (by decide +kernel) rfl, lw_gm 104 (by decide +kernel) rfl, lw_gm 1189 (by decide +kernel) rfl, ⟨by decide, by decide, by decide +kernel⟩, by decide⟩, lw_gm 1187 (by decide +kernel) rfl, lw_gm 1188 (by decide +kernel) rfl, _, _, rfl⟩
theorem ll_181 : xlV RL 181 yX12_goes cX12_goes 3 (some .int) 2 11 := ⟨⟨lw_gm 2072 (by decide +kernel) rfl, lw_gm 117 (by decide +kernel) rfl, lw_gm 2075 (by decide +kernel) rfl, ⟨by decide, by decide, by decide +kernel⟩, by decide⟩, lw_gm 2073 (by decide +kernel) rfl, lw_gm 2074 (by decide +kernel) rfl, _, _, rfl⟩
theorem ll_182 : xlV RL 182 yX11_agrees cX11_agrees 2 (some .int) 1 10 := ⟨⟨lw_gm 1196 (by decide +kernel) rfl, lw_gm 104 (by decide +kernel) rfl, lw_gm 1199 (by decide +kernel) rfl, ⟨by decide, by decide, by decide +kernel⟩, by decide⟩, lw_gm 1197 (by decide +kernel) rfl, lw_gm 1198 (by decide +kernel) rfl, _, _, rfl⟩
theorem ll_185 : xlV RL 185 yX12_agrees cX12_agrees 2 (some .int) 1 11 := ⟨⟨lw_gm 2080 (by decide +kernel) rfl, lw_gm 117 (by decide +kernel) rfl, lw_gm 2083 (by decide +kernel) rfl, ⟨by decide, by decide, by decide +kernel⟩, by decide⟩, lw_gm 2081 (by decide +kernel) rfl, lw_gm 2082 (by decide +kernel) rfl, _, _, rfl⟩
theorem ll_186 : xlV RL 186 yX11_papers cX11_papers 2 (some .int) 1 10 := ⟨⟨lw_gm 1212 (by decide +kernel) rfl, lw_gm 104 (by decide +kernel) rfl, lw_gm 1215 (by decide +kernel) rfl, ⟨by decide, by decide, by decide +kernel⟩, by decide⟩, lw_gm 1213 (by decide +kernel) rfl, lw_gm 1214 (by decide +kernel) rfl, _, _, rfl⟩
theorem ll_189 : xlV RL 189 yX12_papers cX12_papers 5 (some .int) 1 11 := ⟨⟨lw_gm 2089 (by decide +kernel) rfl, lw_gm 117 (by decide +kernel) rfl, lw_gm 2092 (by decide +kernel) rfl, ⟨by decide, by decide, by decide +kernel⟩, by decide⟩, lw_gm 2090 (by decide +kernel) rfl, lw_gm 2091 (by decide +kernel) rfl, _, _, rfl⟩
theorem ll_190 : xlV RL 190 yX11_writtenFor cX11_writtenFor 3 (some .int) 2 10 := ⟨⟨lw_gm 1233 (by decide +kernel) rfl, lw_gm 104 (by decide +kernel) rfl, lw_gm 1236 (by decide +kernel) rfl, ⟨by decide, by decide, by decide +kernel⟩, by decide⟩, lw_gm 1234 (by decide +kernel) rfl, lw_gm 1235 (by decide +kernel) rfl, _, _, rfl⟩
theorem ll_193 : xlV RL 193 yX12_writtenFor cX12_writtenFor 3 (some .int) 2 11 := ⟨⟨lw_gm 2105 (by decide +kernel) rfl, lw_gm 117 (by decide +kernel) rfl, lw_gm 2108 (by decide +kernel) rfl, ⟨by decide, by decide, by decide +kernel⟩, by decide⟩, lw_gm 2106 (by decide +kernel) rfl, lw_gm 2107 (by decide +kernel) rfl, _, _, rfl⟩
theorem ll_194 : xlV RL 194 yX11_elected cX11_elected 1 (some .int) 0 10 := ⟨⟨lw_gm 1250 (by decide +kernel) rfl, lw_gm 104 (by decide +kernel) rfl, lw_gm 1253 (by decide +kernel) rfl, ⟨by decide, by decide, by decide +kernel⟩, by decide⟩, lw_gm 1251 (by decide +kernel) rfl, lw_gm 1252 (by decide +kernel) rfl, _, _, rfl⟩
theorem ll_197 : xlV RL 197 yX12_elected cX12_elected 4 (some .int) 0 11 := ⟨⟨lw_gm 2113 (by decide +kernel) rfl, lw_gm 117 (by decide +kernel) rfl, lw_gm 2116 (by decide +kernel) rfl, ⟨by decide, by decide, by decide +kernel⟩, by decide⟩, lw_gm 2114 (by decide +kernel) rfl, lw_gm 2115 (by decide +kernel) rfl, _, _, rfl⟩
theorem ll_198 : xlV RL 198 yX11_absent cX11_absent 4 (some .boolean) 3 10 := ⟨⟨lw_gm 1264 (by decide +kernel) rfl, lw_gm 104 (by decide +kernel) rfl, lw_gm 1267 (by decide +kernel) rfl, ⟨by decide, by decide, by decide +kernel⟩, by decide⟩, lw_gm 1265 (by decide +kernel) rfl, lw_gm 1266 (by decide +kernel) rfl, _, _, rfl⟩
theorem ll_201 : xlV RL 201 yX12_absent cX12_absent 4 (some .boolean) 3 11 := ⟨⟨lw_gm 2117 (by decide +kernel) rfl, lw_gm 117 (by decide +kernel) rfl, lw_gm 2120 (by decide +kernel) rfl, ⟨by decide, by decide, by decide +kernel⟩, by decide⟩, lw_gm 2118 (by decide +kernel) rfl, lw_gm 2119 (by decide +kernel) rfl, _, _, rfl⟩
theorem ll_202 : xlV RL 202 yX11_joinedAhead cX11_joinedAhead 4 (some .int) 2 10 := ⟨⟨lw_gm 1274 (by decide +kernel) rfl, lw_gm 104 (by decide +kernel) rfl, lw_gm 1277 (by decide +kernel) rfl, ⟨by decide, by decide, by decide +kernel⟩, by decide⟩, lw_gm 1275 (by decide +kernel) rfl, lw_gm 1276 (by decide +kernel) rfl, _, _, rfl⟩
theorem ll_205 : xlV RL 205 yX12_joinedAhead cX12_joinedAhead 4 (some .int) 2 11 := ⟨⟨lw_gm 2121 (by decide +kernel) rfl, lw_gm 117 (by decide +kernel) rfl, lw_gm 2124 (by decide +kernel) rfl, ⟨by decide, by decide, by decide +kernel⟩, by decide⟩, lw_gm 2122 (by decide +kernel) rfl, lw_gm 2123 (by decide +kernel) rfl, _, _, rfl⟩
theorem ll_206 : xlV RL 206 yX11_event cX11_event 5 (some .int) 4 10 := ⟨⟨lw_gm 1287 (by decide +kernel) rfl, lw_gm 104 (by decide +kernel) rfl, lw_gm 1290 (by decide +kernel) rfl, ⟨by decide, by decide, by decide +kernel⟩, by decide⟩, lw_gm 1288 (by decide +kernel) rfl, lw_gm 1289 (by decide +kernel) rfl, _, _, rfl⟩
theorem ll_209 : xlV RL 209 yX12_event cX12_event 6 (some .int) 4 11 := ⟨⟨lw_gm 2126 (by decide +kernel) rfl, lw_gm 117 (by decide +kernel) rfl, lw_gm 2129 (by decide +kernel) rfl, ⟨by decide, by decide, by decide +kernel⟩, by decide⟩, lw_gm 2127 (by decide +kernel) rfl, lw_gm 2128 (by decide +kernel) rfl, _, _, rfl⟩
theorem ll_210 : xlV RL 210 yX11_badOnes cX11_badOnes 2 (some .int) 1 10 := ⟨⟨lw_gm 1307 (by decide +kernel) rfl, lw_gm 104 (by decide +kernel) rfl, lw_gm 1310 (by decide +kernel) rfl, ⟨by decide, by decide, by decide +kernel⟩, by decide⟩, lw_gm 1308 (by decide +kernel) rfl, lw_gm 1309 (by decide +kernel) rfl, _, _, rfl⟩
theorem ll_213 : xlV RL 213 yX12_badOnes cX12_badOnes 2 (some .int) 1 11 := ⟨⟨lw_gm 2130 (by decide +kernel) rfl, lw_gm 117 (by decide +kernel) rfl, lw_gm 2133 (by decide +kernel) rfl, ⟨by decide, by decide, by decide +kernel⟩, by decide⟩, lw_gm 2131 (by decide +kernel) rfl, lw_gm 2132 (by decide +kernel) rfl, _, _, rfl⟩
theorem ll_214 : xlV RL 214 yX11_exposed cX11_exposed 4 (some .int) 3 10 := ⟨⟨lw_gm 1320 (by decide +kernel) rfl, lw_gm 104 (by decide +kernel) rfl, lw_gm 1323 (by decide +kernel) rfl, ⟨by decide, by decide, by decide +kernel⟩, by decide⟩, lw_gm 1321 (by decide +kernel) rfl, lw_gm 1322 (by decide +kernel) rfl, _, _, rfl⟩
theorem ll_217 : xlV RL 217 yX12_exposed cX12_exposed 4 (some .int) 3 11 := ⟨⟨lw_gm 2138 (by decide +kernel) rfl, lw_gm 117 (by decide +kernel) rfl, lw_gm 2141 (by decide +kernel) rfl, ⟨by decide, by decide, by decide +kernel⟩, by decide⟩, lw_gm 2139 (by decide +kernel) rfl, lw_gm 2140 (by decide +kernel) rfl, _, _, rfl⟩
theorem ll_218 : xlV RL 218 yX11_placeAt cX11_placeAt 3 (some .int) 2 10 := ⟨⟨lw_gm 1334 (by decide +kernel) rfl, lw_gm 104 (by decide +kernel) rfl, lw_gm 1337 (by decide +kernel) rfl, ⟨by decide, by decide, by decide +kernel⟩, by decide⟩, lw_gm 1335 (by decide +kernel) rfl, lw_gm 1336 (by decide +kernel) rfl, _, _, rfl⟩
theorem ll_221 : xlV RL 221 yX12_placeAt cX12_placeAt 5 (some .int) 2 11 := ⟨⟨lw_gm 2149 (by decide +kernel) rfl, lw_gm 117 (by decide +kernel) rfl, lw_gm 2152 (by decide +kernel) rfl, ⟨by decide, by decide, by decide +kernel⟩, by decide⟩, lw_gm 2150 (by decide +kernel) rfl, lw_gm 2151 (by decide +kernel) rfl, _, _, rfl⟩
theorem ll_222 : xlV RL 222 yX11_alone cX11_alone 5 (some .int) 4 10 := ⟨⟨lw_gm 1343 (by decide +kernel) rfl, lw_gm 104 (by decide +kernel) rfl, lw_gm 1346 (by decide +kernel) rfl, ⟨by decide, by decide, by decide +kernel⟩, by decide⟩, lw_gm 1344 (by decide +kernel) rfl, lw_gm 1345 (by decide +kernel) rfl, _, _, rfl⟩
theorem ll_225 : xlV RL 225 yX12_alone cX12_alone 5 (some .int) 4 11 := ⟨⟨lw_gm 2153 (by decide +kernel) rfl, lw_gm 117 (by decide +kernel) rfl, lw_gm 2156 (by decide +kernel) rfl, ⟨by decide, by decide, by decide +kernel⟩, by decide⟩, lw_gm 2154 (by decide +kernel) rfl, lw_gm 2155 (by decide +kernel) rfl, _, _, rfl⟩
theorem ll_226 : xlV RL 226 yX11_recount cX11_recount 4 (some .int) 3 10 := ⟨⟨lw_gm 1348 (by decide +kernel) rfl, lw_gm 104 (by decide +kernel) rfl, lw_gm 1351 (by decide +kernel) rfl, ⟨by decide, by decide, by decide +kernel⟩, by decide⟩, lw_gm 1349 (by decide +kernel) rfl, lw_gm 1350 (by decide +kernel) rfl, _, _, rfl⟩
theorem ll_229 : xlV RL 229 yX12_recount cX12_recount 5 (some .int) 3 11 := ⟨⟨lw_gm 2157 (by decide +kernel) rfl, lw_gm 117 (by decide +kernel) rfl, lw_gm 2160 (by decide +kernel) rfl, ⟨by decide, by decide, by decide +kernel⟩, by decide⟩, lw_gm 2158 (by decide +kernel) rfl, lw_gm 2159 (by decide +kernel) rfl, _, _, rfl⟩
theorem ll_230 : xlV RL 230 yX11_kept cX11_kept 4 (some .int) 3 10 := ⟨⟨lw_gm 1356 (by decide +kernel) rfl, lw_gm 104 (by decide +kernel) rfl, lw_gm 1359 (by decide +kernel) rfl, ⟨by decide, by decide, by decide +kernel⟩, by decide⟩, lw_gm 1357 (by decide +kernel) rfl, lw_gm 1358 (by decide +kernel) rfl, _, _, rfl⟩
theorem ll_233 : xlV RL 233 yX12_kept cX12_kept 4 (some .int) 3 11 := ⟨⟨lw_gm 2165 (by decide +kernel) rfl, lw_gm 117 (by decide +kernel) rfl, lw_gm 2168 (by decide +kernel) rfl, ⟨by decide, by decide, by decide +kernel⟩, by decide⟩, lw_gm 2166 (by decide +kernel) rfl, lw_gm 2167 (by decide +kernel) rfl, _, _, rfl⟩
theorem ll_234 : xlV RL 234 yX11_changed cX11_changed 3 (some .int) 2 10 := ⟨⟨lw_gm 1364 (by decide +kernel) rfl, lw_gm 104 (by decide +kernel) rfl, lw_gm 1367 (by decide +kernel) rfl, ⟨by decide, by decide, by decide +kernel⟩, by decide⟩, lw_gm 1365 (by decide +kernel) rfl, lw_gm 1366 (by decide +kernel) rfl, _, _, rfl⟩
theorem ll_237 : xlV RL 237 yX12_changed cX12_changed 7 (some .int) 2 11 := ⟨⟨lw_gm 2169 (by decide +kernel) rfl, lw_gm 117 (by decide +kernel) rfl, lw_gm 2172 (by decide +kernel) rfl, ⟨by decide, by decide, by decide +kernel⟩, by decide⟩, lw_gm 2170 (by decide +kernel) rfl, lw_gm 2171 (by decide +kernel) rfl, _, _, rfl⟩
theorem ll_238 : xlV RL 238 yX11_differs cX11_differs 2 (some .int) 1 10 := ⟨⟨lw_gm 1372 (by decide +kernel) rfl, lw_gm 104 (by decide +kernel) rfl, lw_gm 1375 (by decide +kernel) rfl, ⟨by decide, by decide, by decide +kernel⟩, by decide⟩, lw_gm 1373 (by decide +kernel) rfl, lw_gm 1374 (by decide +kernel) rfl, _, _, rfl⟩
theorem ll_241 : xlV RL 241 yX12_differs cX12_differs 2 (some .int) 1 11 := ⟨⟨lw_gm 2173 (by decide +kernel) rfl, lw_gm 117 (by decide +kernel) rfl, lw_gm 2176 (by decide +kernel) rfl, ⟨by decide, by decide, by decide +kernel⟩, by decide⟩, lw_gm 2174 (by decide +kernel) rfl, lw_gm 2175 (by decide +kernel) rfl, _, _, rfl⟩
theorem ll_242 : xlV RL 242 yX11_take cX11_take 2 (some .int) 1 10 := ⟨⟨lw_gm 1386 (by decide +kernel) rfl, lw_gm 104 (by decide +kernel) rfl, lw_gm 1389 (by decide +kernel) rfl, ⟨by decide, by decide, by decide +kernel⟩, by decide⟩, lw_gm 1387 (by decide +kernel) rfl, lw_gm 1388 (by decide +kernel) rfl, _, _, rfl⟩
theorem ll_245 : xlV RL 245 yX12_take cX12_take 4 (some .int) 1 11 := ⟨⟨lw_gm 2185 (by decide +kernel) rfl, lw_gm 117 (by decide +kernel) rfl, lw_gm 2188 (by decide +kernel) rfl, ⟨by decide, by decide, by decide +kernel⟩, by decide⟩, lw_gm 2186 (by decide +kernel) rfl, lw_gm 2187 (by decide +kernel) rfl, _, _, rfl⟩
theorem ll_246 : xlV RL 246 yX11_count cX11_count 2 (some .int) 1 10 := ⟨⟨lw_gm 1396 (by decide +kernel) rfl, lw_gm 104 (by decide +kernel) rfl, lw_gm 1399 (by decide +kernel) rfl, ⟨by decide, by decide, by decide +kernel⟩, by decide⟩, lw_gm 1397 (by decide +kernel) rfl, lw_gm 1398 (by decide +kernel) rfl, _, _, rfl⟩
theorem ll_249 : xlV RL 249 yX12_count cX12_count 2 (some .int) 1 11 := ⟨⟨lw_gm 2189 (by decide +kernel) rfl, lw_gm 117 (by decide +kernel) rfl, lw_gm 2192 (by decide +kernel) rfl, ⟨by decide, by decide, by decide +kernel⟩, by decide⟩, lw_gm 2190 (by decide +kernel) rfl, lw_gm 2191 (by decide +kernel) rfl, _, _, rfl⟩
def Op0 (Rel : xM → xM → Prop) : Prop := ∀ (C R : xM) (x1 x2 : Int32), Rel C R → xOp Rel (F_X11_office x1 x2 C) (F_X12_office FU x1 x2 R)
def Op1 (Rel : xM → xM → Prop) : Prop := ∀ (C R : xM) (x1 x2 : Int32), Rel C R → xOp Rel (F_X11_strap x1 x2 C) (F_X12_strap x1 x2 R)
def Op2 (Rel : xM → xM → Prop) : Prop := ∀ (C R : xM), Rel C R → xOp Rel (F_X11_unstrap  C) (F_X12_unstrap  R)
def Op3 (Rel : xM → xM → Prop) : Prop := ∀ (C R : xM) (x1 x2 : Int32), Rel C R → xOp Rel (F_X11_may FU x1 x2 C) (F_X12_may FU x1 x2 R)
def Op4 (Rel : xM → xM → Prop) : Prop := ∀ (C R : xM) (x1 : Int32), Rel C R → xOp Rel (F_X11_proof FU x1 C) (F_X12_proof FU x1 R)
def Op5 (Rel : xM → xM → Prop) : Prop := ∀ (C R : xM), Rel C R → xOp Rel (F_X11_rows FU  C) (F_X12_rows FU  R)
def Op6 (Rel : xM → xM → Prop) : Prop := ∀ (C R : xM), Rel C R → xOp Rel (F_X11_need FU  C) (F_X12_need FU  R)
def Op7 (Rel : xM → xM → Prop) : Prop := ∀ (C R : xM) (x1 : Int32), Rel C R → xOp Rel (F_X11_orders FU x1 C) (F_X12_orders FU x1 R)
def Op8 (Rel : xM → xM → Prop) : Prop := ∀ (C R : xM) (x1 x2 x3 x4 x5 : Int32), Rel C R → xOp Rel (F_X11_feed FU x1 x2 x3 x4 x5 C) (F_X12_feed FU x1 x2 x3 x4 x5 R)
def Op9 (Rel : xM → xM → Prop) : Prop := ∀ (C R : xM) (x1 : Int32), Rel C R → xOp Rel (F_X11_end x1 C) (F_X12_end x1 R)
def Op10 (Rel : xM → xM → Prop) : Prop := ∀ (C R : xM), Rel C R → xOp Rel (F_X11_fault FU  C) (F_X12_fault FU  R)
def Op11 (Rel : xM → xM → Prop) : Prop := ∀ (C R : xM), Rel C R → xOp Rel (F_X11_law FU  C) (F_X12_law FU  R)
def Op12 (Rel : xM → xM → Prop) : Prop := ∀ (C R : xM) (x1 : Int32), Rel C R → xOp Rel (F_X11_use FU x1 C) (F_X12_use x1 R)
def Op13 (Rel : xM → xM → Prop) : Prop := ∀ (C R : xM) (x1 x2 x3 x4 x5 : Int32), Rel C R → xOp Rel (F_X11_machine FU x1 x2 x3 x4 x5 C) (F_X12_machine x1 x2 x3 x4 x5 R)
def Op14 (Rel : xM → xM → Prop) : Prop := ∀ (C R : xM) (x1 : Int32), Rel C R → xOp Rel (some (P_X11_voters x1 C, C)) (F_X12_voters FU x1 R)
def Op15 (Rel : xM → xM → Prop) : Prop := ∀ (C R : xM) (x1 : Int32), Rel C R → xOp Rel (F_X11_agree FU x1 C) (F_X12_agree FU x1 R)
def Op16 (Rel : xM → xM → Prop) : Prop := ∀ (C R : xM) (x1 x2 x3 : Int32), Rel C R → xOp Rel (F_X11_show x1 x2 x3 C) (F_X12_show x1 x2 x3 R)
def Op17 (Rel : xM → xM → Prop) : Prop := ∀ (C R : xM) (x1 x2 x3 x4 : Int32), Rel C R → xOp Rel (F_X11_trouble x1 x2 x3 x4 C) (F_X12_trouble x1 x2 x3 x4 R)
def Op18 (Rel : xM → xM → Prop) : Prop := ∀ (C R : xM) (x1 x2 : Int32), Rel C R → xOp Rel (F_X11_fitting FU x1 x2 C) (F_X12_fitting FU x1 x2 R)
def Op19 (Rel : xM → xM → Prop) : Prop := ∀ (C R : xM) (x1 x2 : Int32), Rel C R → xOp Rel (F_X11_sets FU x1 x2 C) (F_X12_sets FU x1 x2 R)
def Op20 (Rel : xM → xM → Prop) : Prop := ∀ (C R : xM) (x1 x2 x3 : Int32), Rel C R → xOp Rel (F_X11_span FU x1 x2 x3 C) (F_X12_span FU x1 x2 x3 R)
def Op21 (Rel : xM → xM → Prop) : Prop := ∀ (C R : xM) (x1 x2 : Int32), Rel C R → xOp Rel (F_X11_open FU x1 x2 C) (F_X12_open FU x1 x2 R)
def Op22 (Rel : xM → xM → Prop) : Prop := ∀ (C R : xM) (x1 x2 : Int32), Rel C R → xOp Rel (F_X11_total FU x1 x2 C) (F_X12_total FU x1 x2 R)
def Op23 (Rel : xM → xM → Prop) : Prop := ∀ (C R : xM) (x1 x2 : Int32), Rel C R → xOp Rel (F_X11_ahead FU x1 x2 C) (F_X12_ahead FU x1 x2 R)
def Op24 (Rel : xM → xM → Prop) : Prop := ∀ (C R : xM) (x1 : Int32), Rel C R → xOp Rel (F_X11_wins FU x1 C) (F_X12_wins FU x1 R)
def Op25 (Rel : xM → xM → Prop) : Prop := ∀ (C R : xM) (x1 x2 : Int32), Rel C R → xOp Rel (F_X11_cost x1 x2 C) (F_X12_cost x1 x2 R)
def Op26 (Rel : xM → xM → Prop) : Prop := ∀ (C R : xM) (x1 x2 : Int32), Rel C R → xOp Rel (F_X11_till FU x1 x2 C) (F_X12_till FU x1 x2 R)
def Op27 (Rel : xM → xM → Prop) : Prop := ∀ (C R : xM) (x1 x2 : Int32), Rel C R → xOp Rel (F_X11_test x1 x2 C) (F_X12_test x1 x2 R)
def Op28 (Rel : xM → xM → Prop) : Prop := ∀ (C R : xM) (x1 x2 : Int32), Rel C R → xOp Rel (F_X11_sees FU x1 x2 C) (F_X12_sees FU x1 x2 R)
def Op29 (Rel : xM → xM → Prop) : Prop := ∀ (C R : xM) (x1 : Int32), Rel C R → xOp Rel (F_X11_cover FU x1 C) (F_X12_cover FU x1 R)
def Op30 (Rel : xM → xM → Prop) : Prop := ∀ (C R : xM) (x1 x2 x3 x4 x5 : Int32), Rel C R → xOp Rel (F_X11_name FU x1 ((x2.toInt64 <<< ((32 : Int32).toInt64 &&& 63)) ||| (x3.toInt64 &&& (4294967295 : Int64))) x4 x5 C) (F_X12_name FU x1 ((x2.toInt64 <<< ((32 : Int32).toInt64 &&& 63)) ||| (x3.toInt64 &&& (4294967295 : Int64))) x4 x5 R)
def Op31 (Rel : xM → xM → Prop) : Prop := ∀ (C R : xM) (x1 x2 x3 x4 : Int32), Rel C R → xOp Rel (F_X11_first FU x1 ((x2.toInt64 <<< ((32 : Int32).toInt64 &&& 63)) ||| (x3.toInt64 &&& (4294967295 : Int64))) x4 C) (F_X12_first FU x1 ((x2.toInt64 <<< ((32 : Int32).toInt64 &&& 63)) ||| (x3.toInt64 &&& (4294967295 : Int64))) x4 R)
def Op32 (Rel : xM → xM → Prop) : Prop := ∀ (C R : xM), Rel C R → xOp Rel (F_X11_known FU  C) (F_X12_known FU  R)
def Op33 (Rel : xM → xM → Prop) : Prop := ∀ (C R : xM) (x1 x2 : Int32), Rel C R → xOp Rel (F_X11_read FU x1 x2 C) (F_X12_read FU x1 x2 R)
def Op34 (Rel : xM → xM → Prop) : Prop := ∀ (C R : xM) (x1 : Int32), Rel C R → xOp Rel (F_X11_limit x1 C) (F_X12_limit x1 R)
def Op35 (Rel : xM → xM → Prop) : Prop := ∀ (C R : xM) (x1 x2 x3 : Int32), Rel C R → xOp Rel (some (P_X11_far x1 x2 x3 C, C)) (F_X12_far FU x1 x2 x3 R)
def Op36 (Rel : xM → xM → Prop) : Prop := ∀ (C R : xM) (x1 x2 : Int32), Rel C R → xOp Rel (F_X11_goes FU x1 x2 C) (F_X12_goes FU x1 x2 R)
def Op37 (Rel : xM → xM → Prop) : Prop := ∀ (C R : xM) (x1 : Int32), Rel C R → xOp Rel (F_X11_agrees FU x1 C) (F_X12_agrees FU x1 R)
def Op38 (Rel : xM → xM → Prop) : Prop := ∀ (C R : xM) (x1 : Int32), Rel C R → xOp Rel (F_X11_papers FU x1 C) (F_X12_papers FU x1 R)
def Op39 (Rel : xM → xM → Prop) : Prop := ∀ (C R : xM) (x1 x2 : Int32), Rel C R → xOp Rel (F_X11_writtenFor FU x1 x2 C) (F_X12_writtenFor FU x1 x2 R)
def Op40 (Rel : xM → xM → Prop) : Prop := ∀ (C R : xM), Rel C R → xOp Rel (F_X11_elected FU  C) (F_X12_elected FU  R)
def Op41 (Rel : xM → xM → Prop) : Prop := ∀ (C R : xM) (x1 x2 x3 : Int32), Rel C R → xOp Rel (F_X11_absent x1 x2 x3 C) (F_X12_absent x1 x2 x3 R)
def Op42 (Rel : xM → xM → Prop) : Prop := ∀ (C R : xM) (x1 x2 : Int32), Rel C R → xOp Rel (F_X11_joinedAhead FU x1 x2 C) (F_X12_joinedAhead FU x1 x2 R)
def Op43 (Rel : xM → xM → Prop) : Prop := ∀ (C R : xM) (x1 x2 x3 x4 : Int32), Rel C R → xOp Rel (F_X11_event x1 x2 x3 x4 C) (F_X12_event x1 x2 x3 x4 R)
def Op44 (Rel : xM → xM → Prop) : Prop := ∀ (C R : xM) (x1 : Int32), Rel C R → xOp Rel (F_X11_badOnes FU x1 C) (F_X12_badOnes FU x1 R)
def Op45 (Rel : xM → xM → Prop) : Prop := ∀ (C R : xM) (x1 x2 x3 : Int32), Rel C R → xOp Rel (F_X11_exposed FU x1 x2 x3 C) (F_X12_exposed FU x1 x2 x3 R)
def Op46 (Rel : xM → xM → Prop) : Prop := ∀ (C R : xM) (x1 x2 : Int32), Rel C R → xOp Rel (F_X11_placeAt FU x1 x2 C) (F_X12_placeAt FU x1 x2 R)
def Op47 (Rel : xM → xM → Prop) : Prop := ∀ (C R : xM) (x1 x2 x3 x4 : Int32), Rel C R → xOp Rel (F_X11_alone FU x1 x2 x3 x4 C) (F_X12_alone FU x1 x2 x3 x4 R)
def Op48 (Rel : xM → xM → Prop) : Prop := ∀ (C R : xM) (x1 x2 x3 : Int32), Rel C R → xOp Rel (F_X11_recount x1 x2 x3 C) (F_X12_recount x1 x2 x3 R)
def Op49 (Rel : xM → xM → Prop) : Prop := ∀ (C R : xM) (x1 x2 x3 : Int32), Rel C R → xOp Rel (some (P_X11_kept x1 x2 x3 C, C)) (F_X12_kept x1 x2 x3 R)
def Op50 (Rel : xM → xM → Prop) : Prop := ∀ (C R : xM) (x1 x2 : Int32), Rel C R → xOp Rel (F_X11_changed FU x1 x2 C) (F_X12_changed FU x1 x2 R)
def Op51 (Rel : xM → xM → Prop) : Prop := ∀ (C R : xM) (x1 : Int32), Rel C R → xOp Rel (F_X11_differs FU x1 C) (F_X12_differs FU x1 R)
def Op52 (Rel : xM → xM → Prop) : Prop := ∀ (C R : xM) (x1 : Int32), Rel C R → xOp Rel (F_X11_take FU x1 C) (F_X12_take FU x1 R)
def Op53 (Rel : xM → xM → Prop) : Prop := ∀ (C R : xM) (x1 : Int32), Rel C R → xOp Rel (some (P_X11_count x1 C, C)) (F_X12_count x1 R)
def OpsOK (Rel : xM → xM → Prop) : Prop := Op0 Rel ∧ Op1 Rel ∧ Op2 Rel ∧ Op3 Rel ∧ Op4 Rel ∧ Op5 Rel ∧ Op6 Rel ∧ Op7 Rel ∧ Op8 Rel ∧ Op9 Rel ∧ Op10 Rel ∧ Op11 Rel ∧ Op12 Rel ∧ Op13 Rel ∧ Op14 Rel ∧ Op15 Rel ∧ Op16 Rel ∧ Op17 Rel ∧ Op18 Rel ∧ Op19 Rel ∧ Op20 Rel ∧ Op21 Rel ∧ Op22 Rel ∧ Op23 Rel ∧ Op24 Rel ∧ Op25 Rel ∧ Op26 Rel ∧ Op27 Rel ∧ Op28 Rel ∧ Op29 Rel ∧ Op30 Rel ∧ Op31 Rel ∧ Op32 Rel ∧ Op33 Rel ∧ Op34 Rel ∧ Op35 Rel ∧ Op36 Rel ∧ Op37 Rel ∧ Op38 Rel ∧ Op39 Rel ∧ Op40 Rel ∧ Op41 Rel ∧ Op42 Rel ∧ Op43 Rel ∧ Op44 Rel ∧ Op45 Rel ∧ Op46 Rel ∧ Op47 Rel ∧ Op48 Rel ∧ Op49 Rel ∧ Op50 Rel ∧ Op51 Rel ∧ Op52 Rel ∧ Op53 Rel
def xLoc (aC aM : Nat → Nat) (b j : Nat) : List (Nat × Value) := [(0, .ref b), (1, .ref (aC 0)), (2, .ref (aM 0)), (3, .int (nI j))]
set_option maxHeartbeats 4000000 in
set_option maxRecDepth 100000 in
theorem law_op0 {p : Program} {l : Launch} {e : Env} {s : State} {m : MethodId} {below : List Frame} {meth : Method} {c : Code} {b Lb : Nat} {xs : Nat → Int32} {D : va_G} {cA : Nat → ClassId} {aC aM : Nat → Nat} {Q : State → Prop} {Rel : xM → xM → Prop} (hop : Op0 Rel) (hLaw : xLaw p s m meth c b Lb xs D cA aC aM) (hX : va_X b Lb xs s s.heap) (hbl : b < s.heap.size) {j : Nat} (h1 : vp_in (nI j + 1) Lb) (h2 : vp_in (nI j + 2) Lb) (h3 : vp_in (nI j + 3) Lb) (h4 : vp_in (nI j + 4) Lb) (h5 : vp_in (nI j + 5) Lb)
    {C R : xM} (hrel : Rel C R) {H : Heap} {locs : List Loc} (hB : xBoth s D cA aC aM C R H locs) {ls : Array Slot} (hl : lv_has ls 4 (xLoc aC aM b j))
    (kk : ∀ (C R : xM) (H : Heap) (locs : List Loc), Rel C R → xBoth s D cA aC aM C R H locs → W p l e room_1 s m #[Value.ref b] below meth c H locs 600000 7302250 Q (F0 m 2044 ls [])) : W p l e room_1 s m #[Value.ref b] below meth c H locs 600000 7302250 Q (F0 m 272 ls []) := by
  obtain ⟨hCF, hK, hapC, hapM, hdis, hrC, hrM, hZC, hZM⟩ := hLaw
  obtain ⟨hPC, hPM, hS⟩ := hB
  obtain ⟨hx, hb, hml, hown, hts⟩ := id hCF
  have hbA : ¬ (fun q => s.heap.size ≤ q) b := Nat.not_le.mpr hbl
  obtain ⟨v, C', R', e1, e2, hrel'⟩ := hop C R (xs (nI j + 1).toNatClampNeg) (xs (nI j + 2).toNatClampNeg) hrel
  refine lv_aload_n hx hb dL_law_272 rfl (lv_at hl 1 rfl) ?_
  refine lv_aload_n hx hb dL_law_273 rfl (lv_at hl 0 rfl) ?_
  refine lv_iload_n hx hb dL_law_274 rfl (lv_at hl 3 rfl) ?_
  refine lv_iconst (v := (1 : Int32)) hx hb dL_law_275 (by decide) ?_
  refine lv_iadd hx hb dL_law_276 ?_
  refine va_sld hx hb hX hbl hbA hS (i := nI j + 1) h1 dL_law_277 ?_
  refine lv_aload_n hx hb dL_law_278 rfl (lv_at hl 0 rfl) ?_
  refine lv_iload_n hx hb dL_law_279 rfl (lv_at hl 3 rfl) ?_
  refine lv_iconst (v := (2 : Int32)) hx hb dL_law_280 (by decide) ?_
  refine lv_iadd hx hb dL_law_281 ?_
  refine va_sld hx hb hX hbl hbA hS (i := nI j + 2) h2 dL_law_282 ?_
  refine lcall (S := SC) (ad := aC) (N := C) (N' := C') (v := v) (q := 0) (as := [xi (xs (nI j + 1).toNatClampNeg), xi (xs (nI j + 2).toNatClampNeg)]) hCF hK hapC hrC hZC hPC hS hl.1 (by have z := a_X11_office (l := l) (xs (nI j + 1).toNatClampNeg) (xs (nI j + 2).toNatClampNeg) C; rw [e1] at z; exact z) ll_21 rfl rfl (by decide) (Nat.le_of_ble_eq_true rfl) rfl dL_law_283 (fun H locs hPC hS hoth => ?_)
  have hPM := xother hPM (fun q h z => hdis q z h) hoth
  refine lv_aload_n hx hb dL_law_286 rfl (lv_at hl 2 rfl) ?_
  refine lv_aload_n hx hb dL_law_287 rfl (lv_at hl 0 rfl) ?_
  refine lv_iload_n hx hb dL_law_288 rfl (lv_at hl 3 rfl) ?_
  refine lv_iconst (v := (1 : Int32)) hx hb dL_law_289 (by decide) ?_
  refine lv_iadd hx hb dL_law_290 ?_
  refine va_sld hx hb hX hbl hbA hS (i := nI j + 1) h1 dL_law_291 ?_
  refine lv_aload_n hx hb dL_law_292 rfl (lv_at hl 0 rfl) ?_
  refine lv_iload_n hx hb dL_law_293 rfl (lv_at hl 3 rfl) ?_
  refine lv_iconst (v := (2 : Int32)) hx hb dL_law_294 (by decide) ?_
  refine lv_iadd hx hb dL_law_295 ?_
  refine va_sld hx hb hX hbl hbA hS (i := nI j + 2) h2 dL_law_296 ?_
  refine lcall (S := SM) (ad := aM) (N := R) (N' := R') (v := v) (q := 0) (as := [xi (xs (nI j + 1).toNatClampNeg), xi (xs (nI j + 2).toNatClampNeg)]) hCF hK hapM hrM hZM hPM hS hl.1 (by have z := a_X12_office (l := l) FU (xs (nI j + 1).toNatClampNeg) (xs (nI j + 2).toNatClampNeg) R; rw [e2] at z; exact z) ll_25 rfl rfl (by decide) (Nat.le_of_ble_eq_true rfl) rfl dL_law_297 (fun H locs hPM hS hoth => ?_)
  have hPC := xother hPC (fun q h => hdis q h) hoth
  refine lv_icmp_eq (tgt := 2044) hx hb dL_law_300 (by decide) (fun _ => ?_) (fun h => absurd rfl h)
  exact kk C' R' H locs hrel' ⟨hPC, hPM, hS⟩
set_option maxHeartbeats 4000000 in
set_option maxRecDepth 100000 in
theorem law_op1 {p : Program} {l : Launch} {e : Env} {s : State} {m : MethodId} {below : List Frame} {meth : Method} {c : Code} {b Lb : Nat} {xs : Nat → Int32} {D : va_G} {cA : Nat → ClassId} {aC aM : Nat → Nat} {Q : State → Prop} {Rel : xM → xM → Prop} (hop : Op1 Rel) (hLaw : xLaw p s m meth c b Lb xs D cA aC aM) (hX : va_X b Lb xs s s.heap) (hbl : b < s.heap.size) {j : Nat} (h1 : vp_in (nI j + 1) Lb) (h2 : vp_in (nI j + 2) Lb) (h3 : vp_in (nI j + 3) Lb) (h4 : vp_in (nI j + 4) Lb) (h5 : vp_in (nI j + 5) Lb)
    {C R : xM} (hrel : Rel C R) {H : Heap} {locs : List Loc} (hB : xBoth s D cA aC aM C R H locs) {ls : Array Slot} (hl : lv_has ls 4 (xLoc aC aM b j))
    (kk : ∀ (C R : xM) (H : Heap) (locs : List Loc), Rel C R → xBoth s D cA aC aM C R H locs → W p l e room_1 s m #[Value.ref b] below meth c H locs 600000 7302250 Q (F0 m 2044 ls [])) : W p l e room_1 s m #[Value.ref b] below meth c H locs 600000 7302250 Q (F0 m 305 ls []) := by
  obtain ⟨hCF, hK, hapC, hapM, hdis, hrC, hrM, hZC, hZM⟩ := hLaw
  obtain ⟨hPC, hPM, hS⟩ := hB
  obtain ⟨hx, hb, hml, hown, hts⟩ := id hCF
  have hbA : ¬ (fun q => s.heap.size ≤ q) b := Nat.not_le.mpr hbl
  obtain ⟨v, C', R', e1, e2, hrel'⟩ := hop C R (xs (nI j + 1).toNatClampNeg) (xs (nI j + 2).toNatClampNeg) hrel
  refine lv_aload_n hx hb dL_law_305 rfl (lv_at hl 1 rfl) ?_
  refine lv_aload_n hx hb dL_law_306 rfl (lv_at hl 0 rfl) ?_
  refine lv_iload_n hx hb dL_law_307 rfl (lv_at hl 3 rfl) ?_
  refine lv_iconst (v := (1 : Int32)) hx hb dL_law_308 (by decide) ?_
  refine lv_iadd hx hb dL_law_309 ?_
  refine va_sld hx hb hX hbl hbA hS (i := nI j + 1) h1 dL_law_310 ?_
  refine lv_aload_n hx hb dL_law_311 rfl (lv_at hl 0 rfl) ?_
  refine lv_iload_n hx hb dL_law_312 rfl (lv_at hl 3 rfl) ?_
  refine lv_iconst (v := (2 : Int32)) hx hb dL_law_313 (by decide) ?_
  refine lv_iadd hx hb dL_law_314 ?_
  refine va_sld hx hb hX hbl hbA hS (i := nI j + 2) h2 dL_law_315 ?_
  refine lcall (S := SC) (ad := aC) (N := C) (N' := C') (v := v) (q := 0) (as := [xi (xs (nI j + 1).toNatClampNeg), xi (xs (nI j + 2).toNatClampNeg)]) hCF hK hapC hrC hZC hPC hS hl.1 (by have z := a_X11_strap (l := l) (xs (nI j + 1).toNatClampNeg) (xs (nI j + 2).toNatClampNeg) C; rw [e1] at z; exact z) ll_26 rfl rfl (by decide) (Nat.le_of_ble_eq_true rfl) rfl dL_law_316 (fun H locs hPC hS hoth => ?_)
  have hPM := xother hPM (fun q h z => hdis q z h) hoth
  refine lv_aload_n hx hb dL_law_319 rfl (lv_at hl 2 rfl) ?_
  refine lv_aload_n hx hb dL_law_320 rfl (lv_at hl 0 rfl) ?_
  refine lv_iload_n hx hb dL_law_321 rfl (lv_at hl 3 rfl) ?_
  refine lv_iconst (v := (1 : Int32)) hx hb dL_law_322 (by decide) ?_
  refine lv_iadd hx hb dL_law_323 ?_
  refine va_sld hx hb hX hbl hbA hS (i := nI j + 1) h1 dL_law_324 ?_
  refine lv_aload_n hx hb dL_law_325 rfl (lv_at hl 0 rfl) ?_
  refine lv_iload_n hx hb dL_law_326 rfl (lv_at hl 3 rfl) ?_
  refine lv_iconst (v := (2 : Int32)) hx hb dL_law_327 (by decide) ?_
  refine lv_iadd hx hb dL_law_328 ?_
  refine va_sld hx hb hX hbl hbA hS (i := nI j + 2) h2 dL_law_329 ?_
  refine lcall (S := SM) (ad := aM) (N := R) (N' := R') (v := v) (q := 0) (as := [xi (xs (nI j + 1).toNatClampNeg), xi (xs (nI j + 2).toNatClampNeg)]) hCF hK hapM hrM hZM hPM hS hl.1 (by have z := a_X12_strap (l := l) (xs (nI j + 1).toNatClampNeg) (xs (nI j + 2).toNatClampNeg) R; rw [e2] at z; exact z) ll_29 rfl rfl (by decide) (Nat.le_of_ble_eq_true rfl) rfl dL_law_330 (fun H locs hPM hS hoth => ?_)
  have hPC := xother hPC (fun q h => hdis q h) hoth
  refine lv_icmp_eq (tgt := 2044) hx hb dL_law_333 (by decide) (fun _ => ?_) (fun h => absurd rfl h)
  exact kk C' R' H locs hrel' ⟨hPC, hPM, hS⟩
set_option maxHeartbeats 4000000 in
set_option maxRecDepth 100000 in
theorem law_op2 {p : Program} {l : Launch} {e : Env} {s : State} {m : MethodId} {below : List Frame} {meth : Method} {c : Code} {b Lb : Nat} {xs : Nat → Int32} {D : va_G} {cA : Nat → ClassId} {aC aM : Nat → Nat} {Q : State → Prop} {Rel : xM → xM → Prop} (hop : Op2 Rel) (hLaw : xLaw p s m meth c b Lb xs D cA aC aM) (hX : va_X b Lb xs s s.heap) (hbl : b < s.heap.size) {j : Nat} (h1 : vp_in (nI j + 1) Lb) (h2 : vp_in (nI j + 2) Lb) (h3 : vp_in (nI j + 3) Lb) (h4 : vp_in (nI j + 4) Lb) (h5 : vp_in (nI j + 5) Lb)
    {C R : xM} (hrel : Rel C R) {H : Heap} {locs : List Loc} (hB : xBoth s D cA aC aM C R H locs) {ls : Array Slot} (hl : lv_has ls 4 (xLoc aC aM b j))
    (kk : ∀ (C R : xM) (H : Heap) (locs : List Loc), Rel C R → xBoth s D cA aC aM C R H locs → W p l e room_1 s m #[Value.ref b] below meth c H locs 600000 7302250 Q (F0 m 2044 ls [])) : W p l e room_1 s m #[Value.ref b] below meth c H locs 600000 7302250 Q (F0 m 338 ls []) := by
  obtain ⟨hCF, hK, hapC, hapM, hdis, hrC, hrM, hZC, hZM⟩ := hLaw
  obtain ⟨hPC, hPM, hS⟩ := hB
  obtain ⟨hx, hb, hml, hown, hts⟩ := id hCF
  have hbA : ¬ (fun q => s.heap.size ≤ q) b := Nat.not_le.mpr hbl
  obtain ⟨v, C', R', e1, e2, hrel'⟩ := hop C R hrel
  refine lv_aload_n hx hb dL_law_338 rfl (lv_at hl 1 rfl) ?_
  refine lcall (S := SC) (ad := aC) (N := C) (N' := C') (v := v) (q := 0) (as := []) hCF hK hapC hrC hZC hPC hS hl.1 (by have z := a_X11_unstrap (l := l)  C; rw [e1] at z; exact z) ll_30 rfl rfl (by decide) (Nat.le_of_ble_eq_true rfl) rfl dL_law_339 (fun H locs hPC hS hoth => ?_)
  have hPM := xother hPM (fun q h z => hdis q z h) hoth
  refine lv_aload_n hx hb dL_law_342 rfl (lv_at hl 2 rfl) ?_
  refine lcall (S := SM) (ad := aM) (N := R) (N' := R') (v := v) (q := 0) (as := []) hCF hK hapM hrM hZM hPM hS hl.1 (by have z := a_X12_unstrap (l := l)  R; rw [e2] at z; exact z) ll_34 rfl rfl (by decide) (Nat.le_of_ble_eq_true rfl) rfl dL_law_343 (fun H locs hPM hS hoth => ?_)
  have hPC := xother hPC (fun q h => hdis q h) hoth
  refine lv_icmp_eq (tgt := 2044) hx hb dL_law_346 (by decide) (fun _ => ?_) (fun h => absurd rfl h)
  exact kk C' R' H locs hrel' ⟨hPC, hPM, hS⟩
set_option maxHeartbeats 4000000 in
set_option maxRecDepth 100000 in
theorem law_op3 {p : Program} {l : Launch} {e : Env} {s : State} {m : MethodId} {below : List Frame} {meth : Method} {c : Code} {b Lb : Nat} {xs : Nat → Int32} {D : va_G} {cA : Nat → ClassId} {aC aM : Nat → Nat} {Q : State → Prop} {Rel : xM → xM → Prop} (hop : Op3 Rel) (hLaw : xLaw p s m meth c b Lb xs D cA aC aM) (hX : va_X b Lb xs s s.heap) (hbl : b < s.heap.size) {j : Nat} (h1 : vp_in (nI j + 1) Lb) (h2 : vp_in (nI j + 2) Lb) (h3 : vp_in (nI j + 3) Lb) (h4 : vp_in (nI j + 4) Lb) (h5 : vp_in (nI j + 5) Lb)
    {C R : xM} (hrel : Rel C R) {H : Heap} {locs : List Loc} (hB : xBoth s D cA aC aM C R H locs) {ls : Array Slot} (hl : lv_has ls 4 (xLoc aC aM b j))
    (kk : ∀ (C R : xM) (H : Heap) (locs : List Loc), Rel C R → xBoth s D cA aC aM C R H locs → W p l e room_1 s m #[Value.ref b] below meth c H locs 600000 7302250 Q (F0 m 2044 ls [])) : W p l e room_1 s m #[Value.ref b] below meth c H locs 600000 7302250 Q (F0 m 351 ls []) := by
  obtain ⟨hCF, hK, hapC, hapM, hdis, hrC, hrM, hZC, hZM⟩ := hLaw
  obtain ⟨hPC, hPM, hS⟩ := hB
  obtain ⟨hx, hb, hml, hown, hts⟩ := id hCF
  have hbA : ¬ (fun q => s.heap.size ≤ q) b := Nat.not_le.mpr hbl
  obtain ⟨v, C', R', e1, e2, hrel'⟩ := hop C R (xs (nI j + 1).toNatClampNeg) (xs (nI j + 2).toNatClampNeg) hrel
  refine lv_aload_n hx hb dL_law_351 rfl (lv_at hl 1 rfl) ?_
  refine lv_aload_n hx hb dL_law_352 rfl (lv_at hl 0 rfl) ?_
  refine lv_iload_n hx hb dL_law_353 rfl (lv_at hl 3 rfl) ?_
  refine lv_iconst (v := (1 : Int32)) hx hb dL_law_354 (by decide) ?_
  refine lv_iadd hx hb dL_law_355 ?_
  refine va_sld hx hb hX hbl hbA hS (i := nI j + 1) h1 dL_law_356 ?_
  refine lv_aload_n hx hb dL_law_357 rfl (lv_at hl 0 rfl) ?_
  refine lv_iload_n hx hb dL_law_358 rfl (lv_at hl 3 rfl) ?_
  refine lv_iconst (v := (2 : Int32)) hx hb dL_law_359 (by decide) ?_
  refine lv_iadd hx hb dL_law_360 ?_
  refine va_sld hx hb hX hbl hbA hS (i := nI j + 2) h2 dL_law_361 ?_
  refine lcall (S := SC) (ad := aC) (N := C) (N' := C') (v := v) (q := 0) (as := [xi (xs (nI j + 1).toNatClampNeg), xi (xs (nI j + 2).toNatClampNeg)]) hCF hK hapC hrC hZC hPC hS hl.1 (by have z := a_X11_may (l := l) FU (xs (nI j + 1).toNatClampNeg) (xs (nI j + 2).toNatClampNeg) C; rw [e1] at z; exact z) ll_35 rfl rfl (by decide) (Nat.le_of_ble_eq_true rfl) rfl dL_law_362 (fun H locs hPC hS hoth => ?_)
  have hPM := xother hPM (fun q h z => hdis q z h) hoth
  refine lv_aload_n hx hb dL_law_365 rfl (lv_at hl 2 rfl) ?_
  refine lv_aload_n hx hb dL_law_366 rfl (lv_at hl 0 rfl) ?_
  refine lv_iload_n hx hb dL_law_367 rfl (lv_at hl 3 rfl) ?_
  refine lv_iconst (v := (1 : Int32)) hx hb dL_law_368 (by decide) ?_
  refine lv_iadd hx hb dL_law_369 ?_
  refine va_sld hx hb hX hbl hbA hS (i := nI j + 1) h1 dL_law_370 ?_
  refine lv_aload_n hx hb dL_law_371 rfl (lv_at hl 0 rfl) ?_
  refine lv_iload_n hx hb dL_law_372 rfl (lv_at hl 3 rfl) ?_
  refine lv_iconst (v := (2 : Int32)) hx hb dL_law_373 (by decide) ?_
  refine lv_iadd hx hb dL_law_374 ?_
  refine va_sld hx hb hX hbl hbA hS (i := nI j + 2) h2 dL_law_375 ?_
  refine lcall (S := SM) (ad := aM) (N := R) (N' := R') (v := v) (q := 0) (as := [xi (xs (nI j + 1).toNatClampNeg), xi (xs (nI j + 2).toNatClampNeg)]) hCF hK hapM hrM hZM hPM hS hl.1 (by have z := a_X12_may (l := l) FU (xs (nI j + 1).toNatClampNeg) (xs (nI j + 2).toNatClampNeg) R; rw [e2] at z; exact z) ll_38 rfl rfl (by decide) (Nat.le_of_ble_eq_true rfl) rfl dL_law_376 (fun H locs hPM hS hoth => ?_)
  have hPC := xother hPC (fun q h => hdis q h) hoth
  refine lv_icmp_eq (tgt := 2044) hx hb dL_law_379 (by decide) (fun _ => ?_) (fun h => absurd rfl h)
  exact kk C' R' H locs hrel' ⟨hPC, hPM, hS⟩
set_option maxHeartbeats 4000000 in
set_option maxRecDepth 100000 in
theorem law_op4 {p : Program} {l : Launch} {e : Env} {s : State} {m : MethodId} {below : List Frame} {meth : Method} {c : Code} {b Lb : Nat} {xs : Nat → Int32} {D : va_G} {cA : Nat → ClassId} {aC aM : Nat → Nat} {Q : State → Prop} {Rel : xM → xM → Prop} (hop : Op4 Rel) (hLaw : xLaw p s m meth c b Lb xs D cA aC aM) (hX : va_X b Lb xs s s.heap) (hbl : b < s.heap.size) {j : Nat} (h1 : vp_in (nI j + 1) Lb) (h2 : vp_in (nI j + 2) Lb) (h3 : vp_in (nI j + 3) Lb) (h4 : vp_in (nI j + 4) Lb) (h5 : vp_in (nI j + 5) Lb)
    {C R : xM} (hrel : Rel C R) {H : Heap} {locs : List Loc} (hB : xBoth s D cA aC aM C R H locs) {ls : Array Slot} (hl : lv_has ls 4 (xLoc aC aM b j))
    (kk : ∀ (C R : xM) (H : Heap) (locs : List Loc), Rel C R → xBoth s D cA aC aM C R H locs → W p l e room_1 s m #[Value.ref b] below meth c H locs 600000 7302250 Q (F0 m 2044 ls [])) : W p l e room_1 s m #[Value.ref b] below meth c H locs 600000 7302250 Q (F0 m 384 ls []) := by
  obtain ⟨hCF, hK, hapC, hapM, hdis, hrC, hrM, hZC, hZM⟩ := hLaw
  obtain ⟨hPC, hPM, hS⟩ := hB
  obtain ⟨hx, hb, hml, hown, hts⟩ := id hCF
  have hbA : ¬ (fun q => s.heap.size ≤ q) b := Nat.not_le.mpr hbl
  obtain ⟨v, C', R', e1, e2, hrel'⟩ := hop C R (xs (nI j + 1).toNatClampNeg) hrel
  refine lv_aload_n hx hb dL_law_384 rfl (lv_at hl 1 rfl) ?_
  refine lv_aload_n hx hb dL_law_385 rfl (lv_at hl 0 rfl) ?_
  refine lv_iload_n hx hb dL_law_386 rfl (lv_at hl 3 rfl) ?_
  refine lv_iconst (v := (1 : Int32)) hx hb dL_law_387 (by decide) ?_
  refine lv_iadd hx hb dL_law_388 ?_
  refine va_sld hx hb hX hbl hbA hS (i := nI j + 1) h1 dL_law_389 ?_
  refine lcall (S := SC) (ad := aC) (N := C) (N' := C') (v := v) (q := 0) (as := [xi (xs (nI j + 1).toNatClampNeg)]) hCF hK hapC hrC hZC hPC hS hl.1 (by have z := a_X11_proof (l := l) FU (xs (nI j + 1).toNatClampNeg) C; rw [e1] at z; exact z) ll_39 rfl rfl (by decide) (Nat.le_of_ble_eq_true rfl) rfl dL_law_390 (fun H locs hPC hS hoth => ?_)
  have hPM := xother hPM (fun q h z => hdis q z h) hoth
  refine lv_aload_n hx hb dL_law_393 rfl (lv_at hl 2 rfl) ?_
  refine lv_aload_n hx hb dL_law_394 rfl (lv_at hl 0 rfl) ?_
  refine lv_iload_n hx hb dL_law_395 rfl (lv_at hl 3 rfl) ?_
  refine lv_iconst (v := (1 : Int32)) hx hb dL_law_396 (by decide) ?_
  refine lv_iadd hx hb dL_law_397 ?_
  refine va_sld hx hb hX hbl hbA hS (i := nI j + 1) h1 dL_law_398 ?_
  refine lcall (S := SM) (ad := aM) (N := R) (N' := R') (v := v) (q := 0) (as := [xi (xs (nI j + 1).toNatClampNeg)]) hCF hK hapM hrM hZM hPM hS hl.1 (by have z := a_X12_proof (l := l) FU (xs (nI j + 1).toNatClampNeg) R; rw [e2] at z; exact z) ll_43 rfl rfl (by decide) (Nat.le_of_ble_eq_true rfl) rfl dL_law_399 (fun H locs hPM hS hoth => ?_)
  have hPC := xother hPC (fun q h => hdis q h) hoth
  refine lv_icmp_eq (tgt := 2044) hx hb dL_law_402 (by decide) (fun _ => ?_) (fun h => absurd rfl h)
  exact kk C' R' H locs hrel' ⟨hPC, hPM, hS⟩
set_option maxHeartbeats 4000000 in
set_option maxRecDepth 100000 in
theorem law_op5 {p : Program} {l : Launch} {e : Env} {s : State} {m : MethodId} {below : List Frame} {meth : Method} {c : Code} {b Lb : Nat} {xs : Nat → Int32} {D : va_G} {cA : Nat → ClassId} {aC aM : Nat → Nat} {Q : State → Prop} {Rel : xM → xM → Prop} (hop : Op5 Rel) (hLaw : xLaw p s m meth c b Lb xs D cA aC aM) (hX : va_X b Lb xs s s.heap) (hbl : b < s.heap.size) {j : Nat} (h1 : vp_in (nI j + 1) Lb) (h2 : vp_in (nI j + 2) Lb) (h3 : vp_in (nI j + 3) Lb) (h4 : vp_in (nI j + 4) Lb) (h5 : vp_in (nI j + 5) Lb)
    {C R : xM} (hrel : Rel C R) {H : Heap} {locs : List Loc} (hB : xBoth s D cA aC aM C R H locs) {ls : Array Slot} (hl : lv_has ls 4 (xLoc aC aM b j))
    (kk : ∀ (C R : xM) (H : Heap) (locs : List Loc), Rel C R → xBoth s D cA aC aM C R H locs → W p l e room_1 s m #[Value.ref b] below meth c H locs 600000 7302250 Q (F0 m 2044 ls [])) : W p l e room_1 s m #[Value.ref b] below meth c H locs 600000 7302250 Q (F0 m 407 ls []) := by
  obtain ⟨hCF, hK, hapC, hapM, hdis, hrC, hrM, hZC, hZM⟩ := hLaw
  obtain ⟨hPC, hPM, hS⟩ := hB
  obtain ⟨hx, hb, hml, hown, hts⟩ := id hCF
  have hbA : ¬ (fun q => s.heap.size ≤ q) b := Nat.not_le.mpr hbl
  obtain ⟨v, C', R', e1, e2, hrel'⟩ := hop C R hrel
  refine lv_aload_n hx hb dL_law_407 rfl (lv_at hl 1 rfl) ?_
  refine lcall (S := SC) (ad := aC) (N := C) (N' := C') (v := v) (q := 0) (as := []) hCF hK hapC hrC hZC hPC hS hl.1 (by have z := a_X11_rows (l := l) FU  C; rw [e1] at z; exact z) ll_44 rfl rfl (by decide) (Nat.le_of_ble_eq_true rfl) rfl dL_law_408 (fun H locs hPC hS hoth => ?_)
  have hPM := xother hPM (fun q h z => hdis q z h) hoth
  refine lv_aload_n hx hb dL_law_411 rfl (lv_at hl 2 rfl) ?_
  refine lcall (S := SM) (ad := aM) (N := R) (N' := R') (v := v) (q := 0) (as := []) hCF hK hapM hrM hZM hPM hS hl.1 (by have z := a_X12_rows (l := l) FU  R; rw [e2] at z; exact z) ll_47 rfl rfl (by decide) (Nat.le_of_ble_eq_true rfl) rfl dL_law_412 (fun H locs hPM hS hoth => ?_)
  have hPC := xother hPC (fun q h => hdis q h) hoth
  refine lv_icmp_eq (tgt := 2044) hx hb dL_law_415 (by decide) (fun _ => ?_) (fun h => absurd rfl h)
  exact kk C' R' H locs hrel' ⟨hPC, hPM, hS⟩
set_option maxHeartbeats 4000000 in
set_option maxRecDepth 100000 in
theorem law_op6 {p : Program} {l : Launch} {e : Env} {s : State} {m : MethodId} {below : List Frame} {meth : Method} {c : Code} {b Lb : Nat} {xs : Nat → Int32} {D : va_G} {cA : Nat → ClassId} {aC aM : Nat → Nat} {Q : State → Prop} {Rel : xM → xM → Prop} (hop : Op6 Rel) (hLaw : xLaw p s m meth c b Lb xs D cA aC aM) (hX : va_X b Lb xs s s.heap) (hbl : b < s.heap.size) {j : Nat} (h1 : vp_in (nI j + 1) Lb) (h2 : vp_in (nI j + 2) Lb) (h3 : vp_in (nI j + 3) Lb) (h4 : vp_in (nI j + 4) Lb) (h5 : vp_in (nI j + 5) Lb)
    {C R : xM} (hrel : Rel C R) {H : Heap} {locs : List Loc} (hB : xBoth s D cA aC aM C R H locs) {ls : Array Slot} (hl : lv_has ls 4 (xLoc aC aM b j))
    (kk : ∀ (C R : xM) (H : Heap) (locs : List Loc), Rel C R → xBoth s D cA aC aM C R H locs → W p l e room_1 s m #[Value.ref b] below meth c H locs 600000 7302250 Q (F0 m 2044 ls [])) : W p l e room_1 s m #[Value.ref b] below meth c H locs 600000 7302250 Q (F0 m 420 ls []) := by
  obtain ⟨hCF, hK, hapC, hapM, hdis, hrC, hrM, hZC, hZM⟩ := hLaw
  obtain ⟨hPC, hPM, hS⟩ := hB
  obtain ⟨hx, hb, hml, hown, hts⟩ := id hCF
  have hbA : ¬ (fun q => s.heap.size ≤ q) b := Nat.not_le.mpr hbl
  obtain ⟨v, C', R', e1, e2, hrel'⟩ := hop C R hrel
  refine lv_aload_n hx hb dL_law_420 rfl (lv_at hl 1 rfl) ?_
  refine lcall (S := SC) (ad := aC) (N := C) (N' := C') (v := v) (q := 0) (as := []) hCF hK hapC hrC hZC hPC hS hl.1 (by have z := a_X11_need (l := l) FU  C; rw [e1] at z; exact z) ll_48 rfl rfl (by decide) (Nat.le_of_ble_eq_true rfl) rfl dL_law_421 (fun H locs hPC hS hoth => ?_)
  have hPM := xother hPM (fun q h z => hdis q z h) hoth
  refine lv_aload_n hx hb dL_law_424 rfl (lv_at hl 2 rfl) ?_
  refine lcall (S := SM) (ad := aM) (N := R) (N' := R') (v := v) (q := 0) (as := []) hCF hK hapM hrM hZM hPM hS hl.1 (by have z := a_X12_need (l := l) FU  R; rw [e2] at z; exact z) ll_51 rfl rfl (by decide) (Nat.le_of_ble_eq_true rfl) rfl dL_law_425 (fun H locs hPM hS hoth => ?_)
  have hPC := xother hPC (fun q h => hdis q h) hoth
  refine lv_icmp_eq (tgt := 2044) hx hb dL_law_428 (by decide) (fun _ => ?_) (fun h => absurd rfl h)
  exact kk C' R' H locs hrel' ⟨hPC, hPM, hS⟩
set_option maxHeartbeats 4000000 in
set_option maxRecDepth 100000 in
theorem law_op7 {p : Program} {l : Launch} {e : Env} {s : State} {m : MethodId} {below : List Frame} {meth : Method} {c : Code} {b Lb : Nat} {xs : Nat → Int32} {D : va_G} {cA : Nat → ClassId} {aC aM : Nat → Nat} {Q : State → Prop} {Rel : xM → xM → Prop} (hop : Op7 Rel) (hLaw : xLaw p s m meth c b Lb xs D cA aC aM) (hX : va_X b Lb xs s s.heap) (hbl : b < s.heap.size) {j : Nat} (h1 : vp_in (nI j + 1) Lb) (h2 : vp_in (nI j + 2) Lb) (h3 : vp_in (nI j + 3) Lb) (h4 : vp_in (nI j + 4) Lb) (h5 : vp_in (nI j + 5) Lb)
    {C R : xM} (hrel : Rel C R) {H : Heap} {locs : List Loc} (hB : xBoth s D cA aC aM C R H locs) {ls : Array Slot} (hl : lv_has ls 4 (xLoc aC aM b j))
    (kk : ∀ (C R : xM) (H : Heap) (locs : List Loc), Rel C R → xBoth s D cA aC aM C R H locs → W p l e room_1 s m #[Value.ref b] below meth c H locs 600000 7302250 Q (F0 m 2044 ls [])) : W p l e room_1 s m #[Value.ref b] below meth c H locs 600000 7302250 Q (F0 m 433 ls []) := by
  obtain ⟨hCF, hK, hapC, hapM, hdis, hrC, hrM, hZC, hZM⟩ := hLaw
  obtain ⟨hPC, hPM, hS⟩ := hB
  obtain ⟨hx, hb, hml, hown, hts⟩ := id hCF
  have hbA : ¬ (fun q => s.heap.size ≤ q) b := Nat.not_le.mpr hbl
  obtain ⟨v, C', R', e1, e2, hrel'⟩ := hop C R (xs (nI j + 1).toNatClampNeg) hrel
  refine lv_aload_n hx hb dL_law_433 rfl (lv_at hl 1 rfl) ?_
  refine lv_aload_n hx hb dL_law_434 rfl (lv_at hl 0 rfl) ?_
  refine lv_iload_n hx hb dL_law_435 rfl (lv_at hl 3 rfl) ?_
  refine lv_iconst (v := (1 : Int32)) hx hb dL_law_436 (by decide) ?_
  refine lv_iadd hx hb dL_law_437 ?_
  refine va_sld hx hb hX hbl hbA hS (i := nI j + 1) h1 dL_law_438 ?_
  refine lcall (S := SC) (ad := aC) (N := C) (N' := C') (v := v) (q := 0) (as := [xi (xs (nI j + 1).toNatClampNeg)]) hCF hK hapC hrC hZC hPC hS hl.1 (by have z := a_X11_orders (l := l) FU (xs (nI j + 1).toNatClampNeg) C; rw [e1] at z; exact z) ll_52 rfl rfl (by decide) (Nat.le_of_ble_eq_true rfl) rfl dL_law_439 (fun H locs hPC hS hoth => ?_)
  have hPM := xother hPM (fun q h z => hdis q z h) hoth
  refine lv_aload_n hx hb dL_law_442 rfl (lv_at hl 2 rfl) ?_
  refine lv_aload_n hx hb dL_law_443 rfl (lv_at hl 0 rfl) ?_
  refine lv_iload_n hx hb dL_law_444 rfl (lv_at hl 3 rfl) ?_
  refine lv_iconst (v := (1 : Int32)) hx hb dL_law_445 (by decide) ?_
  refine lv_iadd hx hb dL_law_446 ?_
  refine va_sld hx hb hX hbl hbA hS (i := nI j + 1) h1 dL_law_447 ?_
  refine lcall (S := SM) (ad := aM) (N := R) (N' := R') (v := v) (q := 0) (as := [xi (xs (nI j + 1).toNatClampNeg)]) hCF hK hapM hrM hZM hPM hS hl.1 (by have z := a_X12_orders (l := l) FU (xs (nI j + 1).toNatClampNeg) R; rw [e2] at z; exact z) ll_55 rfl rfl (by decide) (Nat.le_of_ble_eq_true rfl) rfl dL_law_448 (fun H locs hPM hS hoth => ?_)
  have hPC := xother hPC (fun q h => hdis q h) hoth
  refine lv_icmp_eq (tgt := 2044) hx hb dL_law_451 (by decide) (fun _ => ?_) (fun h => absurd rfl h)
  exact kk C' R' H locs hrel' ⟨hPC, hPM, hS⟩
set_option maxHeartbeats 4000000 in
set_option maxRecDepth 100000 in
theorem law_op8 {p : Program} {l : Launch} {e : Env} {s : State} {m : MethodId} {below : List Frame} {meth : Method} {c : Code} {b Lb : Nat} {xs : Nat → Int32} {D : va_G} {cA : Nat → ClassId} {aC aM : Nat → Nat} {Q : State → Prop} {Rel : xM → xM → Prop} (hop : Op8 Rel) (hLaw : xLaw p s m meth c b Lb xs D cA aC aM) (hX : va_X b Lb xs s s.heap) (hbl : b < s.heap.size) {j : Nat} (h1 : vp_in (nI j + 1) Lb) (h2 : vp_in (nI j + 2) Lb) (h3 : vp_in (nI j + 3) Lb) (h4 : vp_in (nI j + 4) Lb) (h5 : vp_in (nI j + 5) Lb)
    {C R : xM} (hrel : Rel C R) {H : Heap} {locs : List Loc} (hB : xBoth s D cA aC aM C R H locs) {ls : Array Slot} (hl : lv_has ls 4 (xLoc aC aM b j))
    (kk : ∀ (C R : xM) (H : Heap) (locs : List Loc), Rel C R → xBoth s D cA aC aM C R H locs → W p l e room_1 s m #[Value.ref b] below meth c H locs 600000 7302250 Q (F0 m 2044 ls [])) : W p l e room_1 s m #[Value.ref b] below meth c H locs 600000 7302250 Q (F0 m 456 ls []) := by
  obtain ⟨hCF, hK, hapC, hapM, hdis, hrC, hrM, hZC, hZM⟩ := hLaw
  obtain ⟨hPC, hPM, hS⟩ := hB
  obtain ⟨hx, hb, hml, hown, hts⟩ := id hCF
  have hbA : ¬ (fun q => s.heap.size ≤ q) b := Nat.not_le.mpr hbl
  obtain ⟨v, C', R', e1, e2, hrel'⟩ := hop C R (xs (nI j + 1).toNatClampNeg) (xs (nI j + 2).toNatClampNeg) (xs (nI j + 3).toNatClampNeg) (xs (nI j + 4).toNatClampNeg) (xs (nI j + 5).toNatClampNeg) hrel
  refine lv_aload_n hx hb dL_law_456 rfl (lv_at hl 1 rfl) ?_
  refine lv_aload_n hx hb dL_law_457 rfl (lv_at hl 0 rfl) ?_
  refine lv_iload_n hx hb dL_law_458 rfl (lv_at hl 3 rfl) ?_
  refine lv_iconst (v := (1 : Int32)) hx hb dL_law_459 (by decide) ?_
  refine lv_iadd hx hb dL_law_460 ?_
  refine va_sld hx hb hX hbl hbA hS (i := nI j + 1) h1 dL_law_461 ?_
  refine lv_aload_n hx hb dL_law_462 rfl (lv_at hl 0 rfl) ?_
  refine lv_iload_n hx hb dL_law_463 rfl (lv_at hl 3 rfl) ?_
  refine lv_iconst (v := (2 : Int32)) hx hb dL_law_464 (by decide) ?_
  refine lv_iadd hx hb dL_law_465 ?_
  refine va_sld hx hb hX hbl hbA hS (i := nI j + 2) h2 dL_law_466 ?_
  refine lv_aload_n hx hb dL_law_467 rfl (lv_at hl 0 rfl) ?_
  refine lv_iload_n hx hb dL_law_468 rfl (lv_at hl 3 rfl) ?_
  refine lv_iconst (v := (3 : Int32)) hx hb dL_law_469 (by decide) ?_
  refine lv_iadd hx hb dL_law_470 ?_
  refine va_sld hx hb hX hbl hbA hS (i := nI j + 3) h3 dL_law_471 ?_
  refine lv_aload_n hx hb dL_law_472 rfl (lv_at hl 0 rfl) ?_
  refine lv_iload_n hx hb dL_law_473 rfl (lv_at hl 3 rfl) ?_
  refine lv_iconst (v := (4 : Int32)) hx hb dL_law_474 (by decide) ?_
  refine lv_iadd hx hb dL_law_475 ?_
  refine va_sld hx hb hX hbl hbA hS (i := nI j + 4) h4 dL_law_476 ?_
  refine lv_aload_n hx hb dL_law_477 rfl (lv_at hl 0 rfl) ?_
  refine lv_iload_n hx hb dL_law_478 rfl (lv_at hl 3 rfl) ?_
  refine lv_iconst (v := (5 : Int32)) hx hb dL_law_479 (by decide) ?_
  refine lv_iadd hx hb dL_law_480 ?_
  refine va_sld hx hb hX hbl hbA hS (i := nI j + 5) h5 dL_law_481 ?_
  refine lcall (S := SC) (ad := aC) (N := C) (N' := C') (v := v) (q := 0) (as := [xi (xs (nI j + 1).toNatClampNeg), xi (xs (nI j + 2).toNatClampNeg), xi (xs (nI j + 3).toNatClampNeg), xi (xs (nI j + 4).toNatClampNeg), xi (xs (nI j + 5).toNatClampNeg)]) hCF hK hapC hrC hZC hPC hS hl.1 (by have z := a_X11_feed (l := l) FU (xs (nI j + 1).toNatClampNeg) (xs (nI j + 2).toNatClampNeg) (xs (nI j + 3).toNatClampNeg) (xs (nI j + 4).toNatClampNeg) (xs (nI j + 5).toNatClampNeg) C; rw [e1] at z; exact z) ll_56 rfl rfl (by decide) (Nat.le_of_ble_eq_true rfl) rfl dL_law_482 (fun H locs hPC hS hoth => ?_)
  have hPM := xother hPM (fun q h z => hdis q z h) hoth
  refine lv_aload_n hx hb dL_law_485 rfl (lv_at hl 2 rfl) ?_
  refine lv_aload_n hx hb dL_law_486 rfl (lv_at hl 0 rfl) ?_
  refine lv_iload_n hx hb dL_law_487 rfl (lv_at hl 3 rfl) ?_
  refine lv_iconst (v := (1 : Int32)) hx hb dL_law_488 (by decide) ?_
  refine lv_iadd hx hb dL_law_489 ?_
  refine va_sld hx hb hX hbl hbA hS (i := nI j + 1) h1 dL_law_490 ?_
  refine lv_aload_n hx hb dL_law_491 rfl (lv_at hl 0 rfl) ?_
  refine lv_iload_n hx hb dL_law_492 rfl (lv_at hl 3 rfl) ?_
  refine lv_iconst (v := (2 : Int32)) hx hb dL_law_493 (by decide) ?_
  refine lv_iadd hx hb dL_law_494 ?_
  refine va_sld hx hb hX hbl hbA hS (i := nI j + 2) h2 dL_law_495 ?_
  refine lv_aload_n hx hb dL_law_496 rfl (lv_at hl 0 rfl) ?_
  refine lv_iload_n hx hb dL_law_497 rfl (lv_at hl 3 rfl) ?_
  refine lv_iconst (v := (3 : Int32)) hx hb dL_law_498 (by decide) ?_
  refine lv_iadd hx hb dL_law_499 ?_
  refine va_sld hx hb hX hbl hbA hS (i := nI j + 3) h3 dL_law_500 ?_
  refine lv_aload_n hx hb dL_law_501 rfl (lv_at hl 0 rfl) ?_
  refine lv_iload_n hx hb dL_law_502 rfl (lv_at hl 3 rfl) ?_
  refine lv_iconst (v := (4 : Int32)) hx hb dL_law_503 (by decide) ?_
  refine lv_iadd hx hb dL_law_504 ?_
  refine va_sld hx hb hX hbl hbA hS (i := nI j + 4) h4 dL_law_505 ?_
  refine lv_aload_n hx hb dL_law_506 rfl (lv_at hl 0 rfl) ?_
  refine lv_iload_n hx hb dL_law_507 rfl (lv_at hl 3 rfl) ?_
  refine lv_iconst (v := (5 : Int32)) hx hb dL_law_508 (by decide) ?_
  refine lv_iadd hx hb dL_law_509 ?_
  refine va_sld hx hb hX hbl hbA hS (i := nI j + 5) h5 dL_law_510 ?_
  refine lcall (S := SM) (ad := aM) (N := R) (N' := R') (v := v) (q := 0) (as := [xi (xs (nI j + 1).toNatClampNeg), xi (xs (nI j + 2).toNatClampNeg), xi (xs (nI j + 3).toNatClampNeg), xi (xs (nI j + 4).toNatClampNeg), xi (xs (nI j + 5).toNatClampNeg)]) hCF hK hapM hrM hZM hPM hS hl.1 (by have z := a_X12_feed (l := l) FU (xs (nI j + 1).toNatClampNeg) (xs (nI j + 2).toNatClampNeg) (xs (nI j + 3).toNatClampNeg) (xs (nI j + 4).toNatClampNeg) (xs (nI j + 5).toNatClampNeg) R; rw [e2] at z; exact z) ll_60 rfl rfl (by decide) (Nat.le_of_ble_eq_true rfl) rfl dL_law_511 (fun H locs hPM hS hoth => ?_)
  have hPC := xother hPC (fun q h => hdis q h) hoth
  refine lv_icmp_eq (tgt := 2044) hx hb dL_law_514 (by decide) (fun _ => ?_) (fun h => absurd rfl h)
  exact kk C' R' H locs hrel' ⟨hPC, hPM, hS⟩
set_option maxHeartbeats 4000000 in
set_option maxRecDepth 100000 in
theorem law_op9 {p : Program} {l : Launch} {e : Env} {s : State} {m : MethodId} {below : List Frame} {meth : Method} {c : Code} {b Lb : Nat} {xs : Nat → Int32} {D : va_G} {cA : Nat → ClassId} {aC aM : Nat → Nat} {Q : State → Prop} {Rel : xM → xM → Prop} (hop : Op9 Rel) (hLaw : xLaw p s m meth c b Lb xs D cA aC aM) (hX : va_X b Lb xs s s.heap) (hbl : b < s.heap.size) {j : Nat} (h1 : vp_in (nI j + 1) Lb) (h2 : vp_in (nI j + 2) Lb) (h3 : vp_in (nI j + 3) Lb) (h4 : vp_in (nI j + 4) Lb) (h5 : vp_in (nI j + 5) Lb)
    {C R : xM} (hrel : Rel C R) {H : Heap} {locs : List Loc} (hB : xBoth s D cA aC aM C R H locs) {ls : Array Slot} (hl : lv_has ls 4 (xLoc aC aM b j))
    (kk : ∀ (C R : xM) (H : Heap) (locs : List Loc), Rel C R → xBoth s D cA aC aM C R H locs → W p l e room_1 s m #[Value.ref b] below meth c H locs 600000 7302250 Q (F0 m 2044 ls [])) : W p l e room_1 s m #[Value.ref b] below meth c H locs 600000 7302250 Q (F0 m 519 ls []) := by
  obtain ⟨hCF, hK, hapC, hapM, hdis, hrC, hrM, hZC, hZM⟩ := hLaw
  obtain ⟨hPC, hPM, hS⟩ := hB
  obtain ⟨hx, hb, hml, hown, hts⟩ := id hCF
  have hbA : ¬ (fun q => s.heap.size ≤ q) b := Nat.not_le.mpr hbl
  obtain ⟨v, C', R', e1, e2, hrel'⟩ := hop C R (xs (nI j + 1).toNatClampNeg) hrel
  refine lv_aload_n hx hb dL_law_519 rfl (lv_at hl 1 rfl) ?_
  refine lv_aload_n hx hb dL_law_520 rfl (lv_at hl 0 rfl) ?_
  refine lv_iload_n hx hb dL_law_521 rfl (lv_at hl 3 rfl) ?_
  refine lv_iconst (v := (1 : Int32)) hx hb dL_law_522 (by decide) ?_
  refine lv_iadd hx hb dL_law_523 ?_
  refine va_sld hx hb hX hbl hbA hS (i := nI j + 1) h1 dL_law_524 ?_
  refine lcall (S := SC) (ad := aC) (N := C) (N' := C') (v := v) (q := 0) (as := [xi (xs (nI j + 1).toNatClampNeg)]) hCF hK hapC hrC hZC hPC hS hl.1 (by have z := a_X11_end (l := l) (xs (nI j + 1).toNatClampNeg) C; rw [e1] at z; exact z) ll_61 rfl rfl (by decide) (Nat.le_of_ble_eq_true rfl) rfl dL_law_525 (fun H locs hPC hS hoth => ?_)
  have hPM := xother hPM (fun q h z => hdis q z h) hoth
  refine lv_aload_n hx hb dL_law_528 rfl (lv_at hl 2 rfl) ?_
  refine lv_aload_n hx hb dL_law_529 rfl (lv_at hl 0 rfl) ?_
  refine lv_iload_n hx hb dL_law_530 rfl (lv_at hl 3 rfl) ?_
  refine lv_iconst (v := (1 : Int32)) hx hb dL_law_531 (by decide) ?_
  refine lv_iadd hx hb dL_law_532 ?_
  refine va_sld hx hb hX hbl hbA hS (i := nI j + 1) h1 dL_law_533 ?_
  refine lcall (S := SM) (ad := aM) (N := R) (N' := R') (v := v) (q := 0) (as := [xi (xs (nI j + 1).toNatClampNeg)]) hCF hK hapM hrM hZM hPM hS hl.1 (by have z := a_X12_end (l := l) (xs (nI j + 1).toNatClampNeg) R; rw [e2] at z; exact z) ll_65 rfl rfl (by decide) (Nat.le_of_ble_eq_true rfl) rfl dL_law_534 (fun H locs hPM hS hoth => ?_)
  have hPC := xother hPC (fun q h => hdis q h) hoth
  refine lv_icmp_eq (tgt := 2044) hx hb dL_law_537 (by decide) (fun _ => ?_) (fun h => absurd rfl h)
  exact kk C' R' H locs hrel' ⟨hPC, hPM, hS⟩
set_option maxHeartbeats 4000000 in
set_option maxRecDepth 100000 in
theorem law_op10 {p : Program} {l : Launch} {e : Env} {s : State} {m : MethodId} {below : List Frame} {meth : Method} {c : Code} {b Lb : Nat} {xs : Nat → Int32} {D : va_G} {cA : Nat → ClassId} {aC aM : Nat → Nat} {Q : State → Prop} {Rel : xM → xM → Prop} (hop : Op10 Rel) (hLaw : xLaw p s m meth c b Lb xs D cA aC aM) (hX : va_X b Lb xs s s.heap) (hbl : b < s.heap.size) {j : Nat} (h1 : vp_in (nI j + 1) Lb) (h2 : vp_in (nI j + 2) Lb) (h3 : vp_in (nI j + 3) Lb) (h4 : vp_in (nI j + 4) Lb) (h5 : vp_in (nI j + 5) Lb)
    {C R : xM} (hrel : Rel C R) {H : Heap} {locs : List Loc} (hB : xBoth s D cA aC aM C R H locs) {ls : Array Slot} (hl : lv_has ls 4 (xLoc aC aM b j))
    (kk : ∀ (C R : xM) (H : Heap) (locs : List Loc), Rel C R → xBoth s D cA aC aM C R H locs → W p l e room_1 s m #[Value.ref b] below meth c H locs 600000 7302250 Q (F0 m 2044 ls [])) : W p l e room_1 s m #[Value.ref b] below meth c H locs 600000 7302250 Q (F0 m 542 ls []) := by
  obtain ⟨hCF, hK, hapC, hapM, hdis, hrC, hrM, hZC, hZM⟩ := hLaw
  obtain ⟨hPC, hPM, hS⟩ := hB
  obtain ⟨hx, hb, hml, hown, hts⟩ := id hCF
  have hbA : ¬ (fun q => s.heap.size ≤ q) b := Nat.not_le.mpr hbl
  obtain ⟨v, C', R', e1, e2, hrel'⟩ := hop C R hrel
  refine lv_aload_n hx hb dL_law_542 rfl (lv_at hl 1 rfl) ?_
  refine lcall (S := SC) (ad := aC) (N := C) (N' := C') (v := v) (q := 0) (as := []) hCF hK hapC hrC hZC hPC hS hl.1 (by have z := a_X11_fault (l := l) FU  C; rw [e1] at z; exact z) ll_66 rfl rfl (by decide) (Nat.le_of_ble_eq_true rfl) rfl dL_law_543 (fun H locs hPC hS hoth => ?_)
  have hPM := xother hPM (fun q h z => hdis q z h) hoth
  refine lv_aload_n hx hb dL_law_546 rfl (lv_at hl 2 rfl) ?_
  refine lcall (S := SM) (ad := aM) (N := R) (N' := R') (v := v) (q := 0) (as := []) hCF hK hapM hrM hZM hPM hS hl.1 (by have z := a_X12_fault (l := l) FU  R; rw [e2] at z; exact z) ll_69 rfl rfl (by decide) (Nat.le_of_ble_eq_true rfl) rfl dL_law_547 (fun H locs hPM hS hoth => ?_)
  have hPC := xother hPC (fun q h => hdis q h) hoth
  refine lv_icmp_eq (tgt := 2044) hx hb dL_law_550 (by decide) (fun _ => ?_) (fun h => absurd rfl h)
  exact kk C' R' H locs hrel' ⟨hPC, hPM, hS⟩
set_option maxHeartbeats 4000000 in
set_option maxRecDepth 100000 in
theorem law_op11 {p : Program} {l : Launch} {e : Env} {s : State} {m : MethodId} {below : List Frame} {meth : Method} {c : Code} {b Lb : Nat} {xs : Nat → Int32} {D : va_G} {cA : Nat → ClassId} {aC aM : Nat → Nat} {Q : State → Prop} {Rel : xM → xM → Prop} (hop : Op11 Rel) (hLaw : xLaw p s m meth c b Lb xs D cA aC aM) (hX : va_X b Lb xs s s.heap) (hbl : b < s.heap.size) {j : Nat} (h1 : vp_in (nI j + 1) Lb) (h2 : vp_in (nI j + 2) Lb) (h3 : vp_in (nI j + 3) Lb) (h4 : vp_in (nI j + 4) Lb) (h5 : vp_in (nI j + 5) Lb)
    {C R : xM} (hrel : Rel C R) {H : Heap} {locs : List Loc} (hB : xBoth s D cA aC aM C R H locs) {ls : Array Slot} (hl : lv_has ls 4 (xLoc aC aM b j))
    (kk : ∀ (C R : xM) (H : Heap) (locs : List Loc), Rel C R → xBoth s D cA aC aM C R H locs → W p l e room_1 s m #[Value.ref b] below meth c H locs 600000 7302250 Q (F0 m 2044 ls [])) : W p l e room_1 s m #[Value.ref b] below meth c H locs 600000 7302250 Q (F0 m 555 ls []) := by
  obtain ⟨hCF, hK, hapC, hapM, hdis, hrC, hrM, hZC, hZM⟩ := hLaw
  obtain ⟨hPC, hPM, hS⟩ := hB
  obtain ⟨hx, hb, hml, hown, hts⟩ := id hCF
  have hbA : ¬ (fun q => s.heap.size ≤ q) b := Nat.not_le.mpr hbl
  obtain ⟨v, C', R', e1, e2, hrel'⟩ := hop C R hrel
  refine lv_aload_n hx hb dL_law_555 rfl (lv_at hl 1 rfl) ?_
  refine lcall (S := SC) (ad := aC) (N := C) (N' := C') (v := v) (q := 0) (as := []) hCF hK hapC hrC hZC hPC hS hl.1 (by have z := a_X11_law (l := l) FU  C; rw [e1] at z; exact z) ll_70 rfl rfl (by decide) (Nat.le_of_ble_eq_true rfl) rfl dL_law_556 (fun H locs hPC hS hoth => ?_)
  have hPM := xother hPM (fun q h z => hdis q z h) hoth
  refine lv_aload_n hx hb dL_law_559 rfl (lv_at hl 2 rfl) ?_
  refine lcall (S := SM) (ad := aM) (N := R) (N' := R') (v := v) (q := 0) (as := []) hCF hK hapM hrM hZM hPM hS hl.1 (by have z := a_X12_law (l := l) FU  R; rw [e2] at z; exact z) ll_73 rfl rfl (by decide) (Nat.le_of_ble_eq_true rfl) rfl dL_law_560 (fun H locs hPM hS hoth => ?_)
  have hPC := xother hPC (fun q h => hdis q h) hoth
  refine lv_icmp_eq (tgt := 2044) hx hb dL_law_563 (by decide) (fun _ => ?_) (fun h => absurd rfl h)
  exact kk C' R' H locs hrel' ⟨hPC, hPM, hS⟩
set_option maxHeartbeats 4000000 in
set_option maxRecDepth 100000 in
theorem law_op12 {p : Program} {l : Launch} {e : Env} {s : State} {m : MethodId} {below : List Frame} {meth : Method} {c : Code} {b Lb : Nat} {xs : Nat → Int32} {D : va_G} {cA : Nat → ClassId} {aC aM : Nat → Nat} {Q : State → Prop} {Rel : xM → xM → Prop} (hop : Op12 Rel) (hLaw : xLaw p s m meth c b Lb xs D cA aC aM) (hX : va_X b Lb xs s s.heap) (hbl : b < s.heap.size) {j : Nat} (h1 : vp_in (nI j + 1) Lb) (h2 : vp_in (nI j + 2) Lb) (h3 : vp_in (nI j + 3) Lb) (h4 : vp_in (nI j + 4) Lb) (h5 : vp_in (nI j + 5) Lb)
    {C R : xM} (hrel : Rel C R) {H : Heap} {locs : List Loc} (hB : xBoth s D cA aC aM C R H locs) {ls : Array Slot} (hl : lv_has ls 4 (xLoc aC aM b j))
    (kk : ∀ (C R : xM) (H : Heap) (locs : List Loc), Rel C R → xBoth s D cA aC aM C R H locs → W p l e room_1 s m #[Value.ref b] below meth c H locs 600000 7302250 Q (F0 m 2044 ls [])) : W p l e room_1 s m #[Value.ref b] below meth c H locs 600000 7302250 Q (F0 m 568 ls []) := by
  obtain ⟨hCF, hK, hapC, hapM, hdis, hrC, hrM, hZC, hZM⟩ := hLaw
  obtain ⟨hPC, hPM, hS⟩ := hB
  obtain ⟨hx, hb, hml, hown, hts⟩ := id hCF
  have hbA : ¬ (fun q => s.heap.size ≤ q) b := Nat.not_le.mpr hbl
  obtain ⟨v, C', R', e1, e2, hrel'⟩ := hop C R (xs (nI j + 1).toNatClampNeg) hrel
  refine lv_aload_n hx hb dL_law_568 rfl (lv_at hl 1 rfl) ?_
  refine lv_aload_n hx hb dL_law_569 rfl (lv_at hl 0 rfl) ?_
  refine lv_iload_n hx hb dL_law_570 rfl (lv_at hl 3 rfl) ?_
  refine lv_iconst (v := (1 : Int32)) hx hb dL_law_571 (by decide) ?_
  refine lv_iadd hx hb dL_law_572 ?_
  refine va_sld hx hb hX hbl hbA hS (i := nI j + 1) h1 dL_law_573 ?_
  refine lcall (S := SC) (ad := aC) (N := C) (N' := C') (v := v) (q := 0) (as := [xi (xs (nI j + 1).toNatClampNeg)]) hCF hK hapC hrC hZC hPC hS hl.1 (by have z := a_X11_use (l := l) FU (xs (nI j + 1).toNatClampNeg) C; rw [e1] at z; exact z) ll_74 rfl rfl (by decide) (Nat.le_of_ble_eq_true rfl) rfl dL_law_574 (fun H locs hPC hS hoth => ?_)
  have hPM := xother hPM (fun q h z => hdis q z h) hoth
  refine lv_aload_n hx hb dL_law_577 rfl (lv_at hl 2 rfl) ?_
  refine lv_aload_n hx hb dL_law_578 rfl (lv_at hl 0 rfl) ?_
  refine lv_iload_n hx hb dL_law_579 rfl (lv_at hl 3 rfl) ?_
  refine lv_iconst (v := (1 : Int32)) hx hb dL_law_580 (by decide) ?_
  refine lv_iadd hx hb dL_law_581 ?_
  refine va_sld hx hb hX hbl hbA hS (i := nI j + 1) h1 dL_law_582 ?_
  refine lcall (S := SM) (ad := aM) (N := R) (N' := R') (v := v) (q := 0) (as := [xi (xs (nI j + 1).toNatClampNeg)]) hCF hK hapM hrM hZM hPM hS hl.1 (by have z := a_X12_use (l := l) (xs (nI j + 1).toNatClampNeg) R; rw [e2] at z; exact z) ll_77 rfl rfl (by decide) (Nat.le_of_ble_eq_true rfl) rfl dL_law_583 (fun H locs hPM hS hoth => ?_)
  have hPC := xother hPC (fun q h => hdis q h) hoth
  refine lv_icmp_eq (tgt := 2044) hx hb dL_law_586 (by decide) (fun _ => ?_) (fun h => absurd rfl h)
  exact kk C' R' H locs hrel' ⟨hPC, hPM, hS⟩
set_option maxHeartbeats 4000000 in
set_option maxRecDepth 100000 in
theorem law_op13 {p : Program} {l : Launch} {e : Env} {s : State} {m : MethodId} {below : List Frame} {meth : Method} {c : Code} {b Lb : Nat} {xs : Nat → Int32} {D : va_G} {cA : Nat → ClassId} {aC aM : Nat → Nat} {Q : State → Prop} {Rel : xM → xM → Prop} (hop : Op13 Rel) (hLaw : xLaw p s m meth c b Lb xs D cA aC aM) (hX : va_X b Lb xs s s.heap) (hbl : b < s.heap.size) {j : Nat} (h1 : vp_in (nI j + 1) Lb) (h2 : vp_in (nI j + 2) Lb) (h3 : vp_in (nI j + 3) Lb) (h4 : vp_in (nI j + 4) Lb) (h5 : vp_in (nI j + 5) Lb)
    {C R : xM} (hrel : Rel C R) {H : Heap} {locs : List Loc} (hB : xBoth s D cA aC aM C R H locs) {ls : Array Slot} (hl : lv_has ls 4 (xLoc aC aM b j))
    (kk : ∀ (C R : xM) (H : Heap) (locs : List Loc), Rel C R → xBoth s D cA aC aM C R H locs → W p l e room_1 s m #[Value.ref b] below meth c H locs 600000 7302250 Q (F0 m 2044 ls [])) : W p l e room_1 s m #[Value.ref b] below meth c H locs 600000 7302250 Q (F0 m 591 ls []) := by
  obtain ⟨hCF, hK, hapC, hapM, hdis, hrC, hrM, hZC, hZM⟩ := hLaw
  obtain ⟨hPC, hPM, hS⟩ := hB
  obtain ⟨hx, hb, hml, hown, hts⟩ := id hCF
  have hbA : ¬ (fun q => s.heap.size ≤ q) b := Nat.not_le.mpr hbl
  obtain ⟨v, C', R', e1, e2, hrel'⟩ := hop C R (xs (nI j + 1).toNatClampNeg) (xs (nI j + 2).toNatClampNeg) (xs (nI j + 3).toNatClampNeg) (xs (nI j + 4).toNatClampNeg) (xs (nI j + 5).toNatClampNeg) hrel
  refine lv_aload_n hx hb dL_law_591 rfl (lv_at hl 1 rfl) ?_
  refine lv_aload_n hx hb dL_law_592 rfl (lv_at hl 0 rfl) ?_
  refine lv_iload_n hx hb dL_law_593 rfl (lv_at hl 3 rfl) ?_
  refine lv_iconst (v := (1 : Int32)) hx hb dL_law_594 (by decide) ?_
  refine lv_iadd hx hb dL_law_595 ?_
  refine va_sld hx hb hX hbl hbA hS (i := nI j + 1) h1 dL_law_596 ?_
  refine lv_aload_n hx hb dL_law_597 rfl (lv_at hl 0 rfl) ?_
  refine lv_iload_n hx hb dL_law_598 rfl (lv_at hl 3 rfl) ?_
  refine lv_iconst (v := (2 : Int32)) hx hb dL_law_599 (by decide) ?_
  refine lv_iadd hx hb dL_law_600 ?_
  refine va_sld hx hb hX hbl hbA hS (i := nI j + 2) h2 dL_law_601 ?_
  refine lv_aload_n hx hb dL_law_602 rfl (lv_at hl 0 rfl) ?_
  refine lv_iload_n hx hb dL_law_603 rfl (lv_at hl 3 rfl) ?_
  refine lv_iconst (v := (3 : Int32)) hx hb dL_law_604 (by decide) ?_
  refine lv_iadd hx hb dL_law_605 ?_
  refine va_sld hx hb hX hbl hbA hS (i := nI j + 3) h3 dL_law_606 ?_
  refine lv_aload_n hx hb dL_law_607 rfl (lv_at hl 0 rfl) ?_
  refine lv_iload_n hx hb dL_law_608 rfl (lv_at hl 3 rfl) ?_
  refine lv_iconst (v := (4 : Int32)) hx hb dL_law_609 (by decide) ?_
  refine lv_iadd hx hb dL_law_610 ?_
  refine va_sld hx hb hX hbl hbA hS (i := nI j + 4) h4 dL_law_611 ?_
  refine lv_aload_n hx hb dL_law_612 rfl (lv_at hl 0 rfl) ?_
  refine lv_iload_n hx hb dL_law_613 rfl (lv_at hl 3 rfl) ?_
  refine lv_iconst (v := (5 : Int32)) hx hb dL_law_614 (by decide) ?_
  refine lv_iadd hx hb dL_law_615 ?_
  refine va_sld hx hb hX hbl hbA hS (i := nI j + 5) h5 dL_law_616 ?_
  refine lcall (S := SC) (ad := aC) (N := C) (N' := C') (v := v) (q := 0) (as := [xi (xs (nI j + 1).toNatClampNeg), xi (xs (nI j + 2).toNatClampNeg), xi (xs (nI j + 3).toNatClampNeg), xi (xs (nI j + 4).toNatClampNeg), xi (xs (nI j + 5).toNatClampNeg)]) hCF hK hapC hrC hZC hPC hS hl.1 (by have z := a_X11_machine (l := l) FU (xs (nI j + 1).toNatClampNeg) (xs (nI j + 2).toNatClampNeg) (xs (nI j + 3).toNatClampNeg) (xs (nI j + 4).toNatClampNeg) (xs (nI j + 5).toNatClampNeg) C; rw [e1] at z; exact z) ll_78 rfl rfl (by decide) (Nat.le_of_ble_eq_true rfl) rfl dL_law_617 (fun H locs hPC hS hoth => ?_)
  have hPM := xother hPM (fun q h z => hdis q z h) hoth
  refine lv_aload_n hx hb dL_law_620 rfl (lv_at hl 2 rfl) ?_
  refine lv_aload_n hx hb dL_law_621 rfl (lv_at hl 0 rfl) ?_
  refine lv_iload_n hx hb dL_law_622 rfl (lv_at hl 3 rfl) ?_
  refine lv_iconst (v := (1 : Int32)) hx hb dL_law_623 (by decide) ?_
  refine lv_iadd hx hb dL_law_624 ?_
  refine va_sld hx hb hX hbl hbA hS (i := nI j + 1) h1 dL_law_625 ?_
  refine lv_aload_n hx hb dL_law_626 rfl (lv_at hl 0 rfl) ?_
  refine lv_iload_n hx hb dL_law_627 rfl (lv_at hl 3 rfl) ?_
  refine lv_iconst (v := (2 : Int32)) hx hb dL_law_628 (by decide) ?_
  refine lv_iadd hx hb dL_law_629 ?_
  refine va_sld hx hb hX hbl hbA hS (i := nI j + 2) h2 dL_law_630 ?_
  refine lv_aload_n hx hb dL_law_631 rfl (lv_at hl 0 rfl) ?_
  refine lv_iload_n hx hb dL_law_632 rfl (lv_at hl 3 rfl) ?_
  refine lv_iconst (v := (3 : Int32)) hx hb dL_law_633 (by decide) ?_
  refine lv_iadd hx hb dL_law_634 ?_
  refine va_sld hx hb hX hbl hbA hS (i := nI j + 3) h3 dL_law_635 ?_
  refine lv_aload_n hx hb dL_law_636 rfl (lv_at hl 0 rfl) ?_
  refine lv_iload_n hx hb dL_law_637 rfl (lv_at hl 3 rfl) ?_
  refine lv_iconst (v := (4 : Int32)) hx hb dL_law_638 (by decide) ?_
  refine lv_iadd hx hb dL_law_639 ?_
  refine va_sld hx hb hX hbl hbA hS (i := nI j + 4) h4 dL_law_640 ?_
  refine lv_aload_n hx hb dL_law_641 rfl (lv_at hl 0 rfl) ?_
  refine lv_iload_n hx hb dL_law_642 rfl (lv_at hl 3 rfl) ?_
  refine lv_iconst (v := (5 : Int32)) hx hb dL_law_643 (by decide) ?_
  refine lv_iadd hx hb dL_law_644 ?_
  refine va_sld hx hb hX hbl hbA hS (i := nI j + 5) h5 dL_law_645 ?_
  refine lcall (S := SM) (ad := aM) (N := R) (N' := R') (v := v) (q := 0) (as := [xi (xs (nI j + 1).toNatClampNeg), xi (xs (nI j + 2).toNatClampNeg), xi (xs (nI j + 3).toNatClampNeg), xi (xs (nI j + 4).toNatClampNeg), xi (xs (nI j + 5).toNatClampNeg)]) hCF hK hapM hrM hZM hPM hS hl.1 (by have z := a_X12_machine (l := l) (xs (nI j + 1).toNatClampNeg) (xs (nI j + 2).toNatClampNeg) (xs (nI j + 3).toNatClampNeg) (xs (nI j + 4).toNatClampNeg) (xs (nI j + 5).toNatClampNeg) R; rw [e2] at z; exact z) ll_81 rfl rfl (by decide) (Nat.le_of_ble_eq_true rfl) rfl dL_law_646 (fun H locs hPM hS hoth => ?_)
  have hPC := xother hPC (fun q h => hdis q h) hoth
  refine lv_icmp_eq (tgt := 2044) hx hb dL_law_649 (by decide) (fun _ => ?_) (fun h => absurd rfl h)
  exact kk C' R' H locs hrel' ⟨hPC, hPM, hS⟩
set_option maxHeartbeats 4000000 in
set_option maxRecDepth 100000 in
theorem law_op14 {p : Program} {l : Launch} {e : Env} {s : State} {m : MethodId} {below : List Frame} {meth : Method} {c : Code} {b Lb : Nat} {xs : Nat → Int32} {D : va_G} {cA : Nat → ClassId} {aC aM : Nat → Nat} {Q : State → Prop} {Rel : xM → xM → Prop} (hop : Op14 Rel) (hLaw : xLaw p s m meth c b Lb xs D cA aC aM) (hX : va_X b Lb xs s s.heap) (hbl : b < s.heap.size) {j : Nat} (h1 : vp_in (nI j + 1) Lb) (h2 : vp_in (nI j + 2) Lb) (h3 : vp_in (nI j + 3) Lb) (h4 : vp_in (nI j + 4) Lb) (h5 : vp_in (nI j + 5) Lb)
    {C R : xM} (hrel : Rel C R) {H : Heap} {locs : List Loc} (hB : xBoth s D cA aC aM C R H locs) {ls : Array Slot} (hl : lv_has ls 4 (xLoc aC aM b j))
    (kk : ∀ (C R : xM) (H : Heap) (locs : List Loc), Rel C R → xBoth s D cA aC aM C R H locs → W p l e room_1 s m #[Value.ref b] below meth c H locs 600000 7302250 Q (F0 m 2044 ls [])) : W p l e room_1 s m #[Value.ref b] below meth c H locs 600000 7302250 Q (F0 m 654 ls []) := by
  obtain ⟨hCF, hK, hapC, hapM, hdis, hrC, hrM, hZC, hZM⟩ := hLaw
  obtain ⟨hPC, hPM, hS⟩ := hB
  obtain ⟨hx, hb, hml, hown, hts⟩ := id hCF
  have hbA : ¬ (fun q => s.heap.size ≤ q) b := Nat.not_le.mpr hbl
  obtain ⟨v, C', R', e1, e2, hrel'⟩ := hop C R (xs (nI j + 1).toNatClampNeg) hrel
  refine lv_aload_n hx hb dL_law_654 rfl (lv_at hl 1 rfl) ?_
  refine lv_aload_n hx hb dL_law_655 rfl (lv_at hl 0 rfl) ?_
  refine lv_iload_n hx hb dL_law_656 rfl (lv_at hl 3 rfl) ?_
  refine lv_iconst (v := (1 : Int32)) hx hb dL_law_657 (by decide) ?_
  refine lv_iadd hx hb dL_law_658 ?_
  refine va_sld hx hb hX hbl hbA hS (i := nI j + 1) h1 dL_law_659 ?_
  refine lcall (S := SC) (ad := aC) (N := C) (N' := C') (v := v) (q := 0) (as := [xi (xs (nI j + 1).toNatClampNeg)]) hCF hK hapC hrC hZC hPC hS hl.1 (by have z := a_X11_voters (l := l) (xs (nI j + 1).toNatClampNeg) C; rw [e1] at z; exact z) ll_82 rfl rfl (by decide) (Nat.le_of_ble_eq_true rfl) rfl dL_law_660 (fun H locs hPC hS hoth => ?_)
  have hPM := xother hPM (fun q h z => hdis q z h) hoth
  refine lv_aload_n hx hb dL_law_663 rfl (lv_at hl 2 rfl) ?_
  refine lv_aload_n hx hb dL_law_664 rfl (lv_at hl 0 rfl) ?_
  refine lv_iload_n hx hb dL_law_665 rfl (lv_at hl 3 rfl) ?_
  refine lv_iconst (v := (1 : Int32)) hx hb dL_law_666 (by decide) ?_
  refine lv_iadd hx hb dL_law_667 ?_
  refine va_sld hx hb hX hbl hbA hS (i := nI j + 1) h1 dL_law_668 ?_
  refine lcall (S := SM) (ad := aM) (N := R) (N' := R') (v := v) (q := 0) (as := [xi (xs (nI j + 1).toNatClampNeg)]) hCF hK hapM hrM hZM hPM hS hl.1 (by have z := a_X12_voters (l := l) FU (xs (nI j + 1).toNatClampNeg) R; rw [e2] at z; exact z) ll_85 rfl rfl (by decide) (Nat.le_of_ble_eq_true rfl) rfl dL_law_669 (fun H locs hPM hS hoth => ?_)
  have hPC := xother hPC (fun q h => hdis q h) hoth
  refine lv_icmp_eq (tgt := 2044) hx hb dL_law_672 (by decide) (fun _ => ?_) (fun h => absurd rfl h)
  exact kk C' R' H locs hrel' ⟨hPC, hPM, hS⟩
set_option maxHeartbeats 4000000 in
set_option maxRecDepth 100000 in
theorem law_op15 {p : Program} {l : Launch} {e : Env} {s : State} {m : MethodId} {below : List Frame} {meth : Method} {c : Code} {b Lb : Nat} {xs : Nat → Int32} {D : va_G} {cA : Nat → ClassId} {aC aM : Nat → Nat} {Q : State → Prop} {Rel : xM → xM → Prop} (hop : Op15 Rel) (hLaw : xLaw p s m meth c b Lb xs D cA aC aM) (hX : va_X b Lb xs s s.heap) (hbl : b < s.heap.size) {j : Nat} (h1 : vp_in (nI j + 1) Lb) (h2 : vp_in (nI j + 2) Lb) (h3 : vp_in (nI j + 3) Lb) (h4 : vp_in (nI j + 4) Lb) (h5 : vp_in (nI j + 5) Lb)
    {C R : xM} (hrel : Rel C R) {H : Heap} {locs : List Loc} (hB : xBoth s D cA aC aM C R H locs) {ls : Array Slot} (hl : lv_has ls 4 (xLoc aC aM b j))
    (kk : ∀ (C R : xM) (H : Heap) (locs : List Loc), Rel C R → xBoth s D cA aC aM C R H locs → W p l e room_1 s m #[Value.ref b] below meth c H locs 600000 7302250 Q (F0 m 2044 ls [])) : W p l e room_1 s m #[Value.ref b] below meth c H locs 600000 7302250 Q (F0 m 677 ls []) := by
  obtain ⟨hCF, hK, hapC, hapM, hdis, hrC, hrM, hZC, hZM⟩ := hLaw
  obtain ⟨hPC, hPM, hS⟩ := hB
  obtain ⟨hx, hb, hml, hown, hts⟩ := id hCF
  have hbA : ¬ (fun q => s.heap.size ≤ q) b := Nat.not_le.mpr hbl
  obtain ⟨v, C', R', e1, e2, hrel'⟩ := hop C R (xs (nI j + 1).toNatClampNeg) hrel
  refine lv_aload_n hx hb dL_law_677 rfl (lv_at hl 1 rfl) ?_
  refine lv_aload_n hx hb dL_law_678 rfl (lv_at hl 0 rfl) ?_
  refine lv_iload_n hx hb dL_law_679 rfl (lv_at hl 3 rfl) ?_
  refine lv_iconst (v := (1 : Int32)) hx hb dL_law_680 (by decide) ?_
  refine lv_iadd hx hb dL_law_681 ?_
  refine va_sld hx hb hX hbl hbA hS (i := nI j + 1) h1 dL_law_682 ?_
  refine lcall (S := SC) (ad := aC) (N := C) (N' := C') (v := v) (q := 0) (as := [xi (xs (nI j + 1).toNatClampNeg)]) hCF hK hapC hrC hZC hPC hS hl.1 (by have z := a_X11_agree (l := l) FU (xs (nI j + 1).toNatClampNeg) C; rw [e1] at z; exact z) ll_86 rfl rfl (by decide) (Nat.le_of_ble_eq_true rfl) rfl dL_law_683 (fun H locs hPC hS hoth => ?_)
  have hPM := xother hPM (fun q h z => hdis q z h) hoth
  refine lv_aload_n hx hb dL_law_686 rfl (lv_at hl 2 rfl) ?_
  refine lv_aload_n hx hb dL_law_687 rfl (lv_at hl 0 rfl) ?_
  refine lv_iload_n hx hb dL_law_688 rfl (lv_at hl 3 rfl) ?_
  refine lv_iconst (v := (1 : Int32)) hx hb dL_law_689 (by decide) ?_
  refine lv_iadd hx hb dL_law_690 ?_
  refine va_sld hx hb hX hbl hbA hS (i := nI j + 1) h1 dL_law_691 ?_
  refine lcall (S := SM) (ad := aM) (N := R) (N' := R') (v := v) (q := 0) (as := [xi (xs (nI j + 1).toNatClampNeg)]) hCF hK hapM hrM hZM hPM hS hl.1 (by have z := a_X12_agree (l := l) FU (xs (nI j + 1).toNatClampNeg) R; rw [e2] at z; exact z) ll_89 rfl rfl (by decide) (Nat.le_of_ble_eq_true rfl) rfl dL_law_692 (fun H locs hPM hS hoth => ?_)
  have hPC := xother hPC (fun q h => hdis q h) hoth
  refine lv_icmp_eq (tgt := 2044) hx hb dL_law_695 (by decide) (fun _ => ?_) (fun h => absurd rfl h)
  exact kk C' R' H locs hrel' ⟨hPC, hPM, hS⟩
set_option maxHeartbeats 4000000 in
set_option maxRecDepth 100000 in
theorem law_op16 {p : Program} {l : Launch} {e : Env} {s : State} {m : MethodId} {below : List Frame} {meth : Method} {c : Code} {b Lb : Nat} {xs : Nat → Int32} {D : va_G} {cA : Nat → ClassId} {aC aM : Nat → Nat} {Q : State → Prop} {Rel : xM → xM → Prop} (hop : Op16 Rel) (hLaw : xLaw p s m meth c b Lb xs D cA aC aM) (hX : va_X b Lb xs s s.heap) (hbl : b < s.heap.size) {j : Nat} (h1 : vp_in (nI j + 1) Lb) (h2 : vp_in (nI j + 2) Lb) (h3 : vp_in (nI j + 3) Lb) (h4 : vp_in (nI j + 4) Lb) (h5 : vp_in (nI j + 5) Lb)
    {C R : xM} (hrel : Rel C R) {H : Heap} {locs : List Loc} (hB : xBoth s D cA aC aM C R H locs) {ls : Array Slot} (hl : lv_has ls 4 (xLoc aC aM b j))
    (kk : ∀ (C R : xM) (H : Heap) (locs : List Loc), Rel C R → xBoth s D cA aC aM C R H locs → W p l e room_1 s m #[Value.ref b] below meth c H locs 600000 7302250 Q (F0 m 2044 ls [])) : W p l e room_1 s m #[Value.ref b] below meth c H locs 600000 7302250 Q (F0 m 700 ls []) := by
  obtain ⟨hCF, hK, hapC, hapM, hdis, hrC, hrM, hZC, hZM⟩ := hLaw
  obtain ⟨hPC, hPM, hS⟩ := hB
  obtain ⟨hx, hb, hml, hown, hts⟩ := id hCF
  have hbA : ¬ (fun q => s.heap.size ≤ q) b := Nat.not_le.mpr hbl
  obtain ⟨v, C', R', e1, e2, hrel'⟩ := hop C R (xs (nI j + 1).toNatClampNeg) (xs (nI j + 2).toNatClampNeg) (xs (nI j + 3).toNatClampNeg) hrel
  refine lv_aload_n hx hb dL_law_700 rfl (lv_at hl 1 rfl) ?_
  refine lv_aload_n hx hb dL_law_701 rfl (lv_at hl 0 rfl) ?_
  refine lv_iload_n hx hb dL_law_702 rfl (lv_at hl 3 rfl) ?_
  refine lv_iconst (v := (1 : Int32)) hx hb dL_law_703 (by decide) ?_
  refine lv_iadd hx hb dL_law_704 ?_
  refine va_sld hx hb hX hbl hbA hS (i := nI j + 1) h1 dL_law_705 ?_
  refine lv_aload_n hx hb dL_law_706 rfl (lv_at hl 0 rfl) ?_
  refine lv_iload_n hx hb dL_law_707 rfl (lv_at hl 3 rfl) ?_
  refine lv_iconst (v := (2 : Int32)) hx hb dL_law_708 (by decide) ?_
  refine lv_iadd hx hb dL_law_709 ?_
  refine va_sld hx hb hX hbl hbA hS (i := nI j + 2) h2 dL_law_710 ?_
  refine lv_aload_n hx hb dL_law_711 rfl (lv_at hl 0 rfl) ?_
  refine lv_iload_n hx hb dL_law_712 rfl (lv_at hl 3 rfl) ?_
  refine lv_iconst (v := (3 : Int32)) hx hb dL_law_713 (by decide) ?_
  refine lv_iadd hx hb dL_law_714 ?_
  refine va_sld hx hb hX hbl hbA hS (i := nI j + 3) h3 dL_law_715 ?_
  refine lcall (S := SC) (ad := aC) (N := C) (N' := C') (v := v) (q := 0) (as := [xi (xs (nI j + 1).toNatClampNeg), xi (xs (nI j + 2).toNatClampNeg), xi (xs (nI j + 3).toNatClampNeg)]) hCF hK hapC hrC hZC hPC hS hl.1 (by have z := a_X11_show (l := l) (xs (nI j + 1).toNatClampNeg) (xs (nI j + 2).toNatClampNeg) (xs (nI j + 3).toNatClampNeg) C; rw [e1] at z; exact z) ll_90 rfl rfl (by decide) (Nat.le_of_ble_eq_true rfl) rfl dL_law_716 (fun H locs hPC hS hoth => ?_)
  have hPM := xother hPM (fun q h z => hdis q z h) hoth
  refine lv_aload_n hx hb dL_law_719 rfl (lv_at hl 2 rfl) ?_
  refine lv_aload_n hx hb dL_law_720 rfl (lv_at hl 0 rfl) ?_
  refine lv_iload_n hx hb dL_law_721 rfl (lv_at hl 3 rfl) ?_
  refine lv_iconst (v := (1 : Int32)) hx hb dL_law_722 (by decide) ?_
  refine lv_iadd hx hb dL_law_723 ?_
  refine va_sld hx hb hX hbl hbA hS (i := nI j + 1) h1 dL_law_724 ?_
  refine lv_aload_n hx hb dL_law_725 rfl (lv_at hl 0 rfl) ?_
  refine lv_iload_n hx hb dL_law_726 rfl (lv_at hl 3 rfl) ?_
  refine lv_iconst (v := (2 : Int32)) hx hb dL_law_727 (by decide) ?_
  refine lv_iadd hx hb dL_law_728 ?_
  refine va_sld hx hb hX hbl hbA hS (i := nI j + 2) h2 dL_law_729 ?_
  refine lv_aload_n hx hb dL_law_730 rfl (lv_at hl 0 rfl) ?_
  refine lv_iload_n hx hb dL_law_731 rfl (lv_at hl 3 rfl) ?_
  refine lv_iconst (v := (3 : Int32)) hx hb dL_law_732 (by decide) ?_
  refine lv_iadd hx hb dL_law_733 ?_
  refine va_sld hx hb hX hbl hbA hS (i := nI j + 3) h3 dL_law_734 ?_
  refine lcall (S := SM) (ad := aM) (N := R) (N' := R') (v := v) (q := 0) (as := [xi (xs (nI j + 1).toNatClampNeg), xi (xs (nI j + 2).toNatClampNeg), xi (xs (nI j + 3).toNatClampNeg)]) hCF hK hapM hrM hZM hPM hS hl.1 (by have z := a_X12_show (l := l) (xs (nI j + 1).toNatClampNeg) (xs (nI j + 2).toNatClampNeg) (xs (nI j + 3).toNatClampNeg) R; rw [e2] at z; exact z) ll_94 rfl rfl (by decide) (Nat.le_of_ble_eq_true rfl) rfl dL_law_735 (fun H locs hPM hS hoth => ?_)
  have hPC := xother hPC (fun q h => hdis q h) hoth
  refine lv_icmp_eq (tgt := 2044) hx hb dL_law_738 (by decide) (fun _ => ?_) (fun h => absurd rfl h)
  exact kk C' R' H locs hrel' ⟨hPC, hPM, hS⟩
set_option maxHeartbeats 4000000 in
set_option maxRecDepth 100000 in
theorem law_op17 {p : Program} {l : Launch} {e : Env} {s : State} {m : MethodId} {below : List Frame} {meth : Method} {c : Code} {b Lb : Nat} {xs : Nat → Int32} {D : va_G} {cA : Nat → ClassId} {aC aM : Nat → Nat} {Q : State → Prop} {Rel : xM → xM → Prop} (hop : Op17 Rel) (hLaw : xLaw p s m meth c b Lb xs D cA aC aM) (hX : va_X b Lb xs s s.heap) (hbl : b < s.heap.size) {j : Nat} (h1 : vp_in (nI j + 1) Lb) (h2 : vp_in (nI j + 2) Lb) (h3 : vp_in (nI j + 3) Lb) (h4 : vp_in (nI j + 4) Lb) (h5 : vp_in (nI j + 5) Lb)
    {C R : xM} (hrel : Rel C R) {H : Heap} {locs : List Loc} (hB : xBoth s D cA aC aM C R H locs) {ls : Array Slot} (hl : lv_has ls 4 (xLoc aC aM b j))
    (kk : ∀ (C R : xM) (H : Heap) (locs : List Loc), Rel C R → xBoth s D cA aC aM C R H locs → W p l e room_1 s m #[Value.ref b] below meth c H locs 600000 7302250 Q (F0 m 2044 ls [])) : W p l e room_1 s m #[Value.ref b] below meth c H locs 600000 7302250 Q (F0 m 743 ls []) := by
  obtain ⟨hCF, hK, hapC, hapM, hdis, hrC, hrM, hZC, hZM⟩ := hLaw
  obtain ⟨hPC, hPM, hS⟩ := hB
  obtain ⟨hx, hb, hml, hown, hts⟩ := id hCF
  have hbA : ¬ (fun q => s.heap.size ≤ q) b := Nat.not_le.mpr hbl
  obtain ⟨v, C', R', e1, e2, hrel'⟩ := hop C R (xs (nI j + 1).toNatClampNeg) (xs (nI j + 2).toNatClampNeg) (xs (nI j + 3).toNatClampNeg) (xs (nI j + 4).toNatClampNeg) hrel
  refine lv_aload_n hx hb dL_law_743 rfl (lv_at hl 1 rfl) ?_
  refine lv_aload_n hx hb dL_law_744 rfl (lv_at hl 0 rfl) ?_
  refine lv_iload_n hx hb dL_law_745 rfl (lv_at hl 3 rfl) ?_
  refine lv_iconst (v := (1 : Int32)) hx hb dL_law_746 (by decide) ?_
  refine lv_iadd hx hb dL_law_747 ?_
  refine va_sld hx hb hX hbl hbA hS (i := nI j + 1) h1 dL_law_748 ?_
  refine lv_aload_n hx hb dL_law_749 rfl (lv_at hl 0 rfl) ?_
  refine lv_iload_n hx hb dL_law_750 rfl (lv_at hl 3 rfl) ?_
  refine lv_iconst (v := (2 : Int32)) hx hb dL_law_751 (by decide) ?_
  refine lv_iadd hx hb dL_law_752 ?_
  refine va_sld hx hb hX hbl hbA hS (i := nI j + 2) h2 dL_law_753 ?_
  refine lv_aload_n hx hb dL_law_754 rfl (lv_at hl 0 rfl) ?_
  refine lv_iload_n hx hb dL_law_755 rfl (lv_at hl 3 rfl) ?_
  refine lv_iconst (v := (3 : Int32)) hx hb dL_law_756 (by decide) ?_
  refine lv_iadd hx hb dL_law_757 ?_
  refine va_sld hx hb hX hbl hbA hS (i := nI j + 3) h3 dL_law_758 ?_
  refine lv_aload_n hx hb dL_law_759 rfl (lv_at hl 0 rfl) ?_
  refine lv_iload_n hx hb dL_law_760 rfl (lv_at hl 3 rfl) ?_
  refine lv_iconst (v := (4 : Int32)) hx hb dL_law_761 (by decide) ?_
  refine lv_iadd hx hb dL_law_762 ?_
  refine va_sld hx hb hX hbl hbA hS (i := nI j + 4) h4 dL_law_763 ?_
  refine lcall (S := SC) (ad := aC) (N := C) (N' := C') (v := v) (q := 0) (as := [xi (xs (nI j + 1).toNatClampNeg), xi (xs (nI j + 2).toNatClampNeg), xi (xs (nI j + 3).toNatClampNeg), xi (xs (nI j + 4).toNatClampNeg)]) hCF hK hapC hrC hZC hPC hS hl.1 (by have z := a_X11_trouble (l := l) (xs (nI j + 1).toNatClampNeg) (xs (nI j + 2).toNatClampNeg) (xs (nI j + 3).toNatClampNeg) (xs (nI j + 4).toNatClampNeg) C; rw [e1] at z; exact z) ll_95 rfl rfl (by decide) (Nat.le_of_ble_eq_true rfl) rfl dL_law_764 (fun H locs hPC hS hoth => ?_)
  have hPM := xother hPM (fun q h z => hdis q z h) hoth
  refine lv_aload_n hx hb dL_law_767 rfl (lv_at hl 2 rfl) ?_
  refine lv_aload_n hx hb dL_law_768 rfl (lv_at hl 0 rfl) ?_
  refine lv_iload_n hx hb dL_law_769 rfl (lv_at hl 3 rfl) ?_
  refine lv_iconst (v := (1 : Int32)) hx hb dL_law_770 (by decide) ?_
  refine lv_iadd hx hb dL_law_771 ?_
  refine va_sld hx hb hX hbl hbA hS (i := nI j + 1) h1 dL_law_772 ?_
  refine lv_aload_n hx hb dL_law_773 rfl (lv_at hl 0 rfl) ?_
  refine lv_iload_n hx hb dL_law_774 rfl (lv_at hl 3 rfl) ?_
  refine lv_iconst (v := (2 : Int32)) hx hb dL_law_775 (by decide) ?_
  refine lv_iadd hx hb dL_law_776 ?_
  refine va_sld hx hb hX hbl hbA hS (i := nI j + 2) h2 dL_law_777 ?_
  refine lv_aload_n hx hb dL_law_778 rfl (lv_at hl 0 rfl) ?_
  refine lv_iload_n hx hb dL_law_779 rfl (lv_at hl 3 rfl) ?_
  refine lv_iconst (v := (3 : Int32)) hx hb dL_law_780 (by decide) ?_
  refine lv_iadd hx hb dL_law_781 ?_
  refine va_sld hx hb hX hbl hbA hS (i := nI j + 3) h3 dL_law_782 ?_
  refine lv_aload_n hx hb dL_law_783 rfl (lv_at hl 0 rfl) ?_
  refine lv_iload_n hx hb dL_law_784 rfl (lv_at hl 3 rfl) ?_
  refine lv_iconst (v := (4 : Int32)) hx hb dL_law_785 (by decide) ?_
  refine lv_iadd hx hb dL_law_786 ?_
  refine va_sld hx hb hX hbl hbA hS (i := nI j + 4) h4 dL_law_787 ?_
  refine lcall (S := SM) (ad := aM) (N := R) (N' := R') (v := v) (q := 0) (as := [xi (xs (nI j + 1).toNatClampNeg), xi (xs (nI j + 2).toNatClampNeg), xi (xs (nI j + 3).toNatClampNeg), xi (xs (nI j + 4).toNatClampNeg)]) hCF hK hapM hrM hZM hPM hS hl.1 (by have z := a_X12_trouble (l := l) (xs (nI j + 1).toNatClampNeg) (xs (nI j + 2).toNatClampNeg) (xs (nI j + 3).toNatClampNeg) (xs (nI j + 4).toNatClampNeg) R; rw [e2] at z; exact z) ll_99 rfl rfl (by decide) (Nat.le_of_ble_eq_true rfl) rfl dL_law_788 (fun H locs hPM hS hoth => ?_)
  have hPC := xother hPC (fun q h => hdis q h) hoth
  refine lv_icmp_eq (tgt := 2044) hx hb dL_law_791 (by decide) (fun _ => ?_) (fun h => absurd rfl h)
  exact kk C' R' H locs hrel' ⟨hPC, hPM, hS⟩
set_option maxHeartbeats 4000000 in
set_option maxRecDepth 100000 in
theorem law_op18 {p : Program} {l : Launch} {e : Env} {s : State} {m : MethodId} {below : List Frame} {meth : Method} {c : Code} {b Lb : Nat} {xs : Nat → Int32} {D : va_G} {cA : Nat → ClassId} {aC aM : Nat → Nat} {Q : State → Prop} {Rel : xM → xM → Prop} (hop : Op18 Rel) (hLaw : xLaw p s m meth c b Lb xs D cA aC aM) (hX : va_X b Lb xs s s.heap) (hbl : b < s.heap.size) {j : Nat} (h1 : vp_in (nI j + 1) Lb) (h2 : vp_in (nI j + 2) Lb) (h3 : vp_in (nI j + 3) Lb) (h4 : vp_in (nI j + 4) Lb) (h5 : vp_in (nI j + 5) Lb)
    {C R : xM} (hrel : Rel C R) {H : Heap} {locs : List Loc} (hB : xBoth s D cA aC aM C R H locs) {ls : Array Slot} (hl : lv_has ls 4 (xLoc aC aM b j))
    (kk : ∀ (C R : xM) (H : Heap) (locs : List Loc), Rel C R → xBoth s D cA aC aM C R H locs → W p l e room_1 s m #[Value.ref b] below meth c H locs 600000 7302250 Q (F0 m 2044 ls [])) : W p l e room_1 s m #[Value.ref b] below meth c H locs 600000 7302250 Q (F0 m 796 ls []) := by
  obtain ⟨hCF, hK, hapC, hapM, hdis, hrC, hrM, hZC, hZM⟩ := hLaw
  obtain ⟨hPC, hPM, hS⟩ := hB
  obtain ⟨hx, hb, hml, hown, hts⟩ := id hCF
  have hbA : ¬ (fun q => s.heap.size ≤ q) b := Nat.not_le.mpr hbl
  obtain ⟨v, C', R', e1, e2, hrel'⟩ := hop C R (xs (nI j + 1).toNatClampNeg) (xs (nI j + 2).toNatClampNeg) hrel
  refine lv_aload_n hx hb dL_law_796 rfl (lv_at hl 1 rfl) ?_
  refine lv_aload_n hx hb dL_law_797 rfl (lv_at hl 0 rfl) ?_
  refine lv_iload_n hx hb dL_law_798 rfl (lv_at hl 3 rfl) ?_
  refine lv_iconst (v := (1 : Int32)) hx hb dL_law_799 (by decide) ?_
  refine lv_iadd hx hb dL_law_800 ?_
  refine va_sld hx hb hX hbl hbA hS (i := nI j + 1) h1 dL_law_801 ?_
  refine lv_aload_n hx hb dL_law_802 rfl (lv_at hl 0 rfl) ?_
  refine lv_iload_n hx hb dL_law_803 rfl (lv_at hl 3 rfl) ?_
  refine lv_iconst (v := (2 : Int32)) hx hb dL_law_804 (by decide) ?_
  refine lv_iadd hx hb dL_law_805 ?_
  refine va_sld hx hb hX hbl hbA hS (i := nI j + 2) h2 dL_law_806 ?_
  refine lcall (S := SC) (ad := aC) (N := C) (N' := C') (v := v) (q := 0) (as := [xi (xs (nI j + 1).toNatClampNeg), xi (xs (nI j + 2).toNatClampNeg)]) hCF hK hapC hrC hZC hPC hS hl.1 (by have z := a_X11_fitting (l := l) FU (xs (nI j + 1).toNatClampNeg) (xs (nI j + 2).toNatClampNeg) C; rw [e1] at z; exact z) ll_100 rfl rfl (by decide) (Nat.le_of_ble_eq_true rfl) rfl dL_law_807 (fun H locs hPC hS hoth => ?_)
  have hPM := xother hPM (fun q h z => hdis q z h) hoth
  refine lv_aload_n hx hb dL_law_810 rfl (lv_at hl 2 rfl) ?_
  refine lv_aload_n hx hb dL_law_811 rfl (lv_at hl 0 rfl) ?_
  refine lv_iload_n hx hb dL_law_812 rfl (lv_at hl 3 rfl) ?_
  refine lv_iconst (v := (1 : Int32)) hx hb dL_law_813 (by decide) ?_
  refine lv_iadd hx hb dL_law_814 ?_
  refine va_sld hx hb hX hbl hbA hS (i := nI j + 1) h1 dL_law_815 ?_
  refine lv_aload_n hx hb dL_law_816 rfl (lv_at hl 0 rfl) ?_
  refine lv_iload_n hx hb dL_law_817 rfl (lv_at hl 3 rfl) ?_
  refine lv_iconst (v := (2 : Int32)) hx hb dL_law_818 (by decide) ?_
  refine lv_iadd hx hb dL_law_819 ?_
  refine va_sld hx hb hX hbl hbA hS (i := nI j + 2) h2 dL_law_820 ?_
  refine lcall (S := SM) (ad := aM) (N := R) (N' := R') (v := v) (q := 0) (as := [xi (xs (nI j + 1).toNatClampNeg), xi (xs (nI j + 2).toNatClampNeg)]) hCF hK hapM hrM hZM hPM hS hl.1 (by have z := a_X12_fitting (l := l) FU (xs (nI j + 1).toNatClampNeg) (xs (nI j + 2).toNatClampNeg) R; rw [e2] at z; exact z) ll_103 rfl rfl (by decide) (Nat.le_of_ble_eq_true rfl) rfl dL_law_821 (fun H locs hPM hS hoth => ?_)
  have hPC := xother hPC (fun q h => hdis q h) hoth
  refine lv_icmp_eq (tgt := 2044) hx hb dL_law_824 (by decide) (fun _ => ?_) (fun h => absurd rfl h)
  exact kk C' R' H locs hrel' ⟨hPC, hPM, hS⟩
set_option maxHeartbeats 4000000 in
set_option maxRecDepth 100000 in
theorem law_op19 {p : Program} {l : Launch} {e : Env} {s : State} {m : MethodId} {below : List Frame} {meth : Method} {c : Code} {b Lb : Nat} {xs : Nat → Int32} {D : va_G} {cA : Nat → ClassId} {aC aM : Nat → Nat} {Q : State → Prop} {Rel : xM → xM → Prop} (hop : Op19 Rel) (hLaw : xLaw p s m meth c b Lb xs D cA aC aM) (hX : va_X b Lb xs s s.heap) (hbl : b < s.heap.size) {j : Nat} (h1 : vp_in (nI j + 1) Lb) (h2 : vp_in (nI j + 2) Lb) (h3 : vp_in (nI j + 3) Lb) (h4 : vp_in (nI j + 4) Lb) (h5 : vp_in (nI j + 5) Lb)
    {C R : xM} (hrel : Rel C R) {H : Heap} {locs : List Loc} (hB : xBoth s D cA aC aM C R H locs) {ls : Array Slot} (hl : lv_has ls 4 (xLoc aC aM b j))
    (kk : ∀ (C R : xM) (H : Heap) (locs : List Loc), Rel C R → xBoth s D cA aC aM C R H locs → W p l e room_1 s m #[Value.ref b] below meth c H locs 600000 7302250 Q (F0 m 2044 ls [])) : W p l e room_1 s m #[Value.ref b] below meth c H locs 600000 7302250 Q (F0 m 829 ls []) := by
  obtain ⟨hCF, hK, hapC, hapM, hdis, hrC, hrM, hZC, hZM⟩ := hLaw
  obtain ⟨hPC, hPM, hS⟩ := hB
  obtain ⟨hx, hb, hml, hown, hts⟩ := id hCF
  have hbA : ¬ (fun q => s.heap.size ≤ q) b := Nat.not_le.mpr hbl
  obtain ⟨v, C', R', e1, e2, hrel'⟩ := hop C R (xs (nI j + 1).toNatClampNeg) (xs (nI j + 2).toNatClampNeg) hrel
  refine lv_aload_n hx hb dL_law_829 rfl (lv_at hl 1 rfl) ?_
  refine lv_aload_n hx hb dL_law_830 rfl (lv_at hl 0 rfl) ?_
  refine lv_iload_n hx hb dL_law_831 rfl (lv_at hl 3 rfl) ?_
  refine lv_iconst (v := (1 : Int32)) hx hb dL_law_832 (by decide) ?_
  refine lv_iadd hx hb dL_law_833 ?_
  refine va_sld hx hb hX hbl hbA hS (i := nI j + 1) h1 dL_law_834 ?_
  refine lv_aload_n hx hb dL_law_835 rfl (lv_at hl 0 rfl) ?_
  refine lv_iload_n hx hb dL_law_836 rfl (lv_at hl 3 rfl) ?_
  refine lv_iconst (v := (2 : Int32)) hx hb dL_law_837 (by decide) ?_
  refine lv_iadd hx hb dL_law_838 ?_
  refine va_sld hx hb hX hbl hbA hS (i := nI j + 2) h2 dL_law_839 ?_
  refine lcall (S := SC) (ad := aC) (N := C) (N' := C') (v := v) (q := 0) (as := [xi (xs (nI j + 1).toNatClampNeg), xi (xs (nI j + 2).toNatClampNeg)]) hCF hK hapC hrC hZC hPC hS hl.1 (by have z := a_X11_sets (l := l) FU (xs (nI j + 1).toNatClampNeg) (xs (nI j + 2).toNatClampNeg) C; rw [e1] at z; exact z) ll_104 rfl rfl (by decide) (Nat.le_of_ble_eq_true rfl) rfl dL_law_840 (fun H locs hPC hS hoth => ?_)
  have hPM := xother hPM (fun q h z => hdis q z h) hoth
  refine lv_aload_n hx hb dL_law_843 rfl (lv_at hl 2 rfl) ?_
  refine lv_aload_n hx hb dL_law_844 rfl (lv_at hl 0 rfl) ?_
  refine lv_iload_n hx hb dL_law_845 rfl (lv_at hl 3 rfl) ?_
  refine lv_iconst (v := (1 : Int32)) hx hb dL_law_846 (by decide) ?_
  refine lv_iadd hx hb dL_law_847 ?_
  refine va_sld hx hb hX hbl hbA hS (i := nI j + 1) h1 dL_law_848 ?_
  refine lv_aload_n hx hb dL_law_849 rfl (lv_at hl 0 rfl) ?_
  refine lv_iload_n hx hb dL_law_850 rfl (lv_at hl 3 rfl) ?_
  refine lv_iconst (v := (2 : Int32)) hx hb dL_law_851 (by decide) ?_
  refine lv_iadd hx hb dL_law_852 ?_
  refine va_sld hx hb hX hbl hbA hS (i := nI j + 2) h2 dL_law_853 ?_
  refine lcall (S := SM) (ad := aM) (N := R) (N' := R') (v := v) (q := 0) (as := [xi (xs (nI j + 1).toNatClampNeg), xi (xs (nI j + 2).toNatClampNeg)]) hCF hK hapM hrM hZM hPM hS hl.1 (by have z := a_X12_sets (l := l) FU (xs (nI j + 1).toNatClampNeg) (xs (nI j + 2).toNatClampNeg) R; rw [e2] at z; exact z) ll_107 rfl rfl (by decide) (Nat.le_of_ble_eq_true rfl) rfl dL_law_854 (fun H locs hPM hS hoth => ?_)
  have hPC := xother hPC (fun q h => hdis q h) hoth
  refine lv_icmp_eq (tgt := 2044) hx hb dL_law_857 (by decide) (fun _ => ?_) (fun h => absurd rfl h)
  exact kk C' R' H locs hrel' ⟨hPC, hPM, hS⟩
set_option maxHeartbeats 4000000 in
set_option maxRecDepth 100000 in
theorem law_op20 {p : Program} {l : Launch} {e : Env} {s : State} {m : MethodId} {below : List Frame} {meth : Method} {c : Code} {b Lb : Nat} {xs : Nat → Int32} {D : va_G} {cA : Nat → ClassId} {aC aM : Nat → Nat} {Q : State → Prop} {Rel : xM → xM → Prop} (hop : Op20 Rel) (hLaw : xLaw p s m meth c b Lb xs D cA aC aM) (hX : va_X b Lb xs s s.heap) (hbl : b < s.heap.size) {j : Nat} (h1 : vp_in (nI j + 1) Lb) (h2 : vp_in (nI j + 2) Lb) (h3 : vp_in (nI j + 3) Lb) (h4 : vp_in (nI j + 4) Lb) (h5 : vp_in (nI j + 5) Lb)
    {C R : xM} (hrel : Rel C R) {H : Heap} {locs : List Loc} (hB : xBoth s D cA aC aM C R H locs) {ls : Array Slot} (hl : lv_has ls 4 (xLoc aC aM b j))
    (kk : ∀ (C R : xM) (H : Heap) (locs : List Loc), Rel C R → xBoth s D cA aC aM C R H locs → W p l e room_1 s m #[Value.ref b] below meth c H locs 600000 7302250 Q (F0 m 2044 ls [])) : W p l e room_1 s m #[Value.ref b] below meth c H locs 600000 7302250 Q (F0 m 862 ls []) := by
  obtain ⟨hCF, hK, hapC, hapM, hdis, hrC, hrM, hZC, hZM⟩ := hLaw
  obtain ⟨hPC, hPM, hS⟩ := hB
  obtain ⟨hx, hb, hml, hown, hts⟩ := id hCF
  have hbA : ¬ (fun q => s.heap.size ≤ q) b := Nat.not_le.mpr hbl
  obtain ⟨v, C', R', e1, e2, hrel'⟩ := hop C R (xs (nI j + 1).toNatClampNeg) (xs (nI j + 2).toNatClampNeg) (xs (nI j + 3).toNatClampNeg) hrel
  refine lv_aload_n hx hb dL_law_862 rfl (lv_at hl 1 rfl) ?_
  refine lv_aload_n hx hb dL_law_863 rfl (lv_at hl 0 rfl) ?_
  refine lv_iload_n hx hb dL_law_864 rfl (lv_at hl 3 rfl) ?_
  refine lv_iconst (v := (1 : Int32)) hx hb dL_law_865 (by decide) ?_
  refine lv_iadd hx hb dL_law_866 ?_
  refine va_sld hx hb hX hbl hbA hS (i := nI j + 1) h1 dL_law_867 ?_
  refine lv_aload_n hx hb dL_law_868 rfl (lv_at hl 0 rfl) ?_
  refine lv_iload_n hx hb dL_law_869 rfl (lv_at hl 3 rfl) ?_
  refine lv_iconst (v := (2 : Int32)) hx hb dL_law_870 (by decide) ?_
  refine lv_iadd hx hb dL_law_871 ?_
  refine va_sld hx hb hX hbl hbA hS (i := nI j + 2) h2 dL_law_872 ?_
  refine lv_aload_n hx hb dL_law_873 rfl (lv_at hl 0 rfl) ?_
  refine lv_iload_n hx hb dL_law_874 rfl (lv_at hl 3 rfl) ?_
  refine lv_iconst (v := (3 : Int32)) hx hb dL_law_875 (by decide) ?_
  refine lv_iadd hx hb dL_law_876 ?_
  refine va_sld hx hb hX hbl hbA hS (i := nI j + 3) h3 dL_law_877 ?_
  refine lcall (S := SC) (ad := aC) (N := C) (N' := C') (v := v) (q := 0) (as := [xi (xs (nI j + 1).toNatClampNeg), xi (xs (nI j + 2).toNatClampNeg), xi (xs (nI j + 3).toNatClampNeg)]) hCF hK hapC hrC hZC hPC hS hl.1 (by have z := a_X11_span (l := l) FU (xs (nI j + 1).toNatClampNeg) (xs (nI j + 2).toNatClampNeg) (xs (nI j + 3).toNatClampNeg) C; rw [e1] at z; exact z) ll_108 rfl rfl (by decide) (Nat.le_of_ble_eq_true rfl) rfl dL_law_878 (fun H locs hPC hS hoth => ?_)
  have hPM := xother hPM (fun q h z => hdis q z h) hoth
  refine lv_aload_n hx hb dL_law_881 rfl (lv_at hl 2 rfl) ?_
  refine lv_aload_n hx hb dL_law_882 rfl (lv_at hl 0 rfl) ?_
  refine lv_iload_n hx hb dL_law_883 rfl (lv_at hl 3 rfl) ?_
  refine lv_iconst (v := (1 : Int32)) hx hb dL_law_884 (by decide) ?_
  refine lv_iadd hx hb dL_law_885 ?_
  refine va_sld hx hb hX hbl hbA hS (i := nI j + 1) h1 dL_law_886 ?_
  refine lv_aload_n hx hb dL_law_887 rfl (lv_at hl 0 rfl) ?_
  refine lv_iload_n hx hb dL_law_888 rfl (lv_at hl 3 rfl) ?_
  refine lv_iconst (v := (2 : Int32)) hx hb dL_law_889 (by decide) ?_
  refine lv_iadd hx hb dL_law_890 ?_
  refine va_sld hx hb hX hbl hbA hS (i := nI j + 2) h2 dL_law_891 ?_
  refine lv_aload_n hx hb dL_law_892 rfl (lv_at hl 0 rfl) ?_
  refine lv_iload_n hx hb dL_law_893 rfl (lv_at hl 3 rfl) ?_
  refine lv_iconst (v := (3 : Int32)) hx hb dL_law_894 (by decide) ?_
  refine lv_iadd hx hb dL_law_895 ?_
  refine va_sld hx hb hX hbl hbA hS (i := nI j + 3) h3 dL_law_896 ?_
  refine lcall (S := SM) (ad := aM) (N := R) (N' := R') (v := v) (q := 0) (as := [xi (xs (nI j + 1).toNatClampNeg), xi (xs (nI j + 2).toNatClampNeg), xi (xs (nI j + 3).toNatClampNeg)]) hCF hK hapM hrM hZM hPM hS hl.1 (by have z := a_X12_span (l := l) FU (xs (nI j + 1).toNatClampNeg) (xs (nI j + 2).toNatClampNeg) (xs (nI j + 3).toNatClampNeg) R; rw [e2] at z; exact z) ll_112 rfl rfl (by decide) (Nat.le_of_ble_eq_true rfl) rfl dL_law_897 (fun H locs hPM hS hoth => ?_)
  have hPC := xother hPC (fun q h => hdis q h) hoth
  refine lv_icmp_eq (tgt := 2044) hx hb dL_law_900 (by decide) (fun _ => ?_) (fun h => absurd rfl h)
  exact kk C' R' H locs hrel' ⟨hPC, hPM, hS⟩
set_option maxHeartbeats 4000000 in
set_option maxRecDepth 100000 in
theorem law_op21 {p : Program} {l : Launch} {e : Env} {s : State} {m : MethodId} {below : List Frame} {meth : Method} {c : Code} {b Lb : Nat} {xs : Nat → Int32} {D : va_G} {cA : Nat → ClassId} {aC aM : Nat → Nat} {Q : State → Prop} {Rel : xM → xM → Prop} (hop : Op21 Rel) (hLaw : xLaw p s m meth c b Lb xs D cA aC aM) (hX : va_X b Lb xs s s.heap) (hbl : b < s.heap.size) {j : Nat} (h1 : vp_in (nI j + 1) Lb) (h2 : vp_in (nI j + 2) Lb) (h3 : vp_in (nI j + 3) Lb) (h4 : vp_in (nI j + 4) Lb) (h5 : vp_in (nI j + 5) Lb)
    {C R : xM} (hrel : Rel C R) {H : Heap} {locs : List Loc} (hB : xBoth s D cA aC aM C R H locs) {ls : Array Slot} (hl : lv_has ls 4 (xLoc aC aM b j))
    (kk : ∀ (C R : xM) (H : Heap) (locs : List Loc), Rel C R → xBoth s D cA aC aM C R H locs → W p l e room_1 s m #[Value.ref b] below meth c H locs 600000 7302250 Q (F0 m 2044 ls [])) : W p l e room_1 s m #[Value.ref b] below meth c H locs 600000 7302250 Q (F0 m 905 ls []) := by
  obtain ⟨hCF, hK, hapC, hapM, hdis, hrC, hrM, hZC, hZM⟩ := hLaw
  obtain ⟨hPC, hPM, hS⟩ := hB
  obtain ⟨hx, hb, hml, hown, hts⟩ := id hCF
  have hbA : ¬ (fun q => s.heap.size ≤ q) b := Nat.not_le.mpr hbl
  obtain ⟨v, C', R', e1, e2, hrel'⟩ := hop C R (xs (nI j + 1).toNatClampNeg) (xs (nI j + 2).toNatClampNeg) hrel
  refine lv_aload_n hx hb dL_law_905 rfl (lv_at hl 1 rfl) ?_
  refine lv_aload_n hx hb dL_law_906 rfl (lv_at hl 0 rfl) ?_
  refine lv_iload_n hx hb dL_law_907 rfl (lv_at hl 3 rfl) ?_
  refine lv_iconst (v := (1 : Int32)) hx hb dL_law_908 (by decide) ?_
  refine lv_iadd hx hb dL_law_909 ?_
  refine va_sld hx hb hX hbl hbA hS (i := nI j + 1) h1 dL_law_910 ?_
  refine lv_aload_n hx hb dL_law_911 rfl (lv_at hl 0 rfl) ?_
  refine lv_iload_n hx hb dL_law_912 rfl (lv_at hl 3 rfl) ?_
  refine lv_iconst (v := (2 : Int32)) hx hb dL_law_913 (by decide) ?_
  refine lv_iadd hx hb dL_law_914 ?_
  refine va_sld hx hb hX hbl hbA hS (i := nI j + 2) h2 dL_law_915 ?_
  refine lcall (S := SC) (ad := aC) (N := C) (N' := C') (v := v) (q := 0) (as := [xi (xs (nI j + 1).toNatClampNeg), xi (xs (nI j + 2).toNatClampNeg)]) hCF hK hapC hrC hZC hPC hS hl.1 (by have z := a_X11_open (l := l) FU (xs (nI j + 1).toNatClampNeg) (xs (nI j + 2).toNatClampNeg) C; rw [e1] at z; exact z) ll_113 rfl rfl (by decide) (Nat.le_of_ble_eq_true rfl) rfl dL_law_916 (fun H locs hPC hS hoth => ?_)
  have hPM := xother hPM (fun q h z => hdis q z h) hoth
  refine lv_aload_n hx hb dL_law_919 rfl (lv_at hl 2 rfl) ?_
  refine lv_aload_n hx hb dL_law_920 rfl (lv_at hl 0 rfl) ?_
  refine lv_iload_n hx hb dL_law_921 rfl (lv_at hl 3 rfl) ?_
  refine lv_iconst (v := (1 : Int32)) hx hb dL_law_922 (by decide) ?_
  refine lv_iadd hx hb dL_law_923 ?_
  refine va_sld hx hb hX hbl hbA hS (i := nI j + 1) h1 dL_law_924 ?_
  refine lv_aload_n hx hb dL_law_925 rfl (lv_at hl 0 rfl) ?_
  refine lv_iload_n hx hb dL_law_926 rfl (lv_at hl 3 rfl) ?_
  refine lv_iconst (v := (2 : Int32)) hx hb dL_law_927 (by decide) ?_
  refine lv_iadd hx hb dL_law_928 ?_
  refine va_sld hx hb hX hbl hbA hS (i := nI j + 2) h2 dL_law_929 ?_
  refine lcall (S := SM) (ad := aM) (N := R) (N' := R') (v := v) (q := 0) (as := [xi (xs (nI j + 1).toNatClampNeg), xi (xs (nI j + 2).toNatClampNeg)]) hCF hK hapM hrM hZM hPM hS hl.1 (by have z := a_X12_open (l := l) FU (xs (nI j + 1).toNatClampNeg) (xs (nI j + 2).toNatClampNeg) R; rw [e2] at z; exact z) ll_117 rfl rfl (by decide) (Nat.le_of_ble_eq_true rfl) rfl dL_law_930 (fun H locs hPM hS hoth => ?_)
  have hPC := xother hPC (fun q h => hdis q h) hoth
  refine lv_icmp_eq (tgt := 2044) hx hb dL_law_933 (by decide) (fun _ => ?_) (fun h => absurd rfl h)
  exact kk C' R' H locs hrel' ⟨hPC, hPM, hS⟩
set_option maxHeartbeats 4000000 in
set_option maxRecDepth 100000 in
theorem law_op22 {p : Program} {l : Launch} {e : Env} {s : State} {m : MethodId} {below : List Frame} {meth : Method} {c : Code} {b Lb : Nat} {xs : Nat → Int32} {D : va_G} {cA : Nat → ClassId} {aC aM : Nat → Nat} {Q : State → Prop} {Rel : xM → xM → Prop} (hop : Op22 Rel) (hLaw : xLaw p s m meth c b Lb xs D cA aC aM) (hX : va_X b Lb xs s s.heap) (hbl : b < s.heap.size) {j : Nat} (h1 : vp_in (nI j + 1) Lb) (h2 : vp_in (nI j + 2) Lb) (h3 : vp_in (nI j + 3) Lb) (h4 : vp_in (nI j + 4) Lb) (h5 : vp_in (nI j + 5) Lb)
    {C R : xM} (hrel : Rel C R) {H : Heap} {locs : List Loc} (hB : xBoth s D cA aC aM C R H locs) {ls : Array Slot} (hl : lv_has ls 4 (xLoc aC aM b j))
    (kk : ∀ (C R : xM) (H : Heap) (locs : List Loc), Rel C R → xBoth s D cA aC aM C R H locs → W p l e room_1 s m #[Value.ref b] below meth c H locs 600000 7302250 Q (F0 m 2044 ls [])) : W p l e room_1 s m #[Value.ref b] below meth c H locs 600000 7302250 Q (F0 m 938 ls []) := by
  obtain ⟨hCF, hK, hapC, hapM, hdis, hrC, hrM, hZC, hZM⟩ := hLaw
  obtain ⟨hPC, hPM, hS⟩ := hB
  obtain ⟨hx, hb, hml, hown, hts⟩ := id hCF
  have hbA : ¬ (fun q => s.heap.size ≤ q) b := Nat.not_le.mpr hbl
  obtain ⟨v, C', R', e1, e2, hrel'⟩ := hop C R (xs (nI j + 1).toNatClampNeg) (xs (nI j + 2).toNatClampNeg) hrel
  refine lv_aload_n hx hb dL_law_938 rfl (lv_at hl 1 rfl) ?_
  refine lv_aload_n hx hb dL_law_939 rfl (lv_at hl 0 rfl) ?_
  refine lv_iload_n hx hb dL_law_940 rfl (lv_at hl 3 rfl) ?_
  refine lv_iconst (v := (1 : Int32)) hx hb dL_law_941 (by decide) ?_
  refine lv_iadd hx hb dL_law_942 ?_
  refine va_sld hx hb hX hbl hbA hS (i := nI j + 1) h1 dL_law_943 ?_
  refine lv_aload_n hx hb dL_law_944 rfl (lv_at hl 0 rfl) ?_
  refine lv_iload_n hx hb dL_law_945 rfl (lv_at hl 3 rfl) ?_
  refine lv_iconst (v := (2 : Int32)) hx hb dL_law_946 (by decide) ?_
  refine lv_iadd hx hb dL_law_947 ?_
  refine va_sld hx hb hX hbl hbA hS (i := nI j + 2) h2 dL_law_948 ?_
  refine lcall (S := SC) (ad := aC) (N := C) (N' := C') (v := v) (q := 0) (as := [xi (xs (nI j + 1).toNatClampNeg), xi (xs (nI j + 2).toNatClampNeg)]) hCF hK hapC hrC hZC hPC hS hl.1 (by have z := a_X11_total (l := l) FU (xs (nI j + 1).toNatClampNeg) (xs (nI j + 2).toNatClampNeg) C; rw [e1] at z; exact z) ll_118 rfl rfl (by decide) (Nat.le_of_ble_eq_true rfl) rfl dL_law_949 (fun H locs hPC hS hoth => ?_)
  have hPM := xother hPM (fun q h z => hdis q z h) hoth
  refine lv_aload_n hx hb dL_law_952 rfl (lv_at hl 2 rfl) ?_
  refine lv_aload_n hx hb dL_law_953 rfl (lv_at hl 0 rfl) ?_
  refine lv_iload_n hx hb dL_law_954 rfl (lv_at hl 3 rfl) ?_
  refine lv_iconst (v := (1 : Int32)) hx hb dL_law_955 (by decide) ?_
  refine lv_iadd hx hb dL_law_956 ?_
  refine va_sld hx hb hX hbl hbA hS (i := nI j + 1) h1 dL_law_957 ?_
  refine lv_aload_n hx hb dL_law_958 rfl (lv_at hl 0 rfl) ?_
  refine lv_iload_n hx hb dL_law_959 rfl (lv_at hl 3 rfl) ?_
  refine lv_iconst (v := (2 : Int32)) hx hb dL_law_960 (by decide) ?_
  refine lv_iadd hx hb dL_law_961 ?_
  refine va_sld hx hb hX hbl hbA hS (i := nI j + 2) h2 dL_law_962 ?_
  refine lcall (S := SM) (ad := aM) (N := R) (N' := R') (v := v) (q := 0) (as := [xi (xs (nI j + 1).toNatClampNeg), xi (xs (nI j + 2).toNatClampNeg)]) hCF hK hapM hrM hZM hPM hS hl.1 (by have z := a_X12_total (l := l) FU (xs (nI j + 1).toNatClampNeg) (xs (nI j + 2).toNatClampNeg) R; rw [e2] at z; exact z) ll_121 rfl rfl (by decide) (Nat.le_of_ble_eq_true rfl) rfl dL_law_963 (fun H locs hPM hS hoth => ?_)
  have hPC := xother hPC (fun q h => hdis q h) hoth
  refine lv_icmp_eq (tgt := 2044) hx hb dL_law_966 (by decide) (fun _ => ?_) (fun h => absurd rfl h)
  exact kk C' R' H locs hrel' ⟨hPC, hPM, hS⟩
set_option maxHeartbeats 4000000 in
set_option maxRecDepth 100000 in
theorem law_op23 {p : Program} {l : Launch} {e : Env} {s : State} {m : MethodId} {below : List Frame} {meth : Method} {c : Code} {b Lb : Nat} {xs : Nat → Int32} {D : va_G} {cA : Nat → ClassId} {aC aM : Nat → Nat} {Q : State → Prop} {Rel : xM → xM → Prop} (hop : Op23 Rel) (hLaw : xLaw p s m meth c b Lb xs D cA aC aM) (hX : va_X b Lb xs s s.heap) (hbl : b < s.heap.size) {j : Nat} (h1 : vp_in (nI j + 1) Lb) (h2 : vp_in (nI j + 2) Lb) (h3 : vp_in (nI j + 3) Lb) (h4 : vp_in (nI j + 4) Lb) (h5 : vp_in (nI j + 5) Lb)
    {C R : xM} (hrel : Rel C R) {H : Heap} {locs : List Loc} (hB : xBoth s D cA aC aM C R H locs) {ls : Array Slot} (hl : lv_has ls 4 (xLoc aC aM b j))
    (kk : ∀ (C R : xM) (H : Heap) (locs : List Loc), Rel C R → xBoth s D cA aC aM C R H locs → W p l e room_1 s m #[Value.ref b] below meth c H locs 600000 7302250 Q (F0 m 2044 ls [])) : W p l e room_1 s m #[Value.ref b] below meth c H locs 600000 7302250 Q (F0 m 971 ls []) := by
  obtain ⟨hCF, hK, hapC, hapM, hdis, hrC, hrM, hZC, hZM⟩ := hLaw
  obtain ⟨hPC, hPM, hS⟩ := hB
  obtain ⟨hx, hb, hml, hown, hts⟩ := id hCF
  have hbA : ¬ (fun q => s.heap.size ≤ q) b := Nat.not_le.mpr hbl
  obtain ⟨v, C', R', e1, e2, hrel'⟩ := hop C R (xs (nI j + 1).toNatClampNeg) (xs (nI j + 2).toNatClampNeg) hrel
  refine lv_aload_n hx hb dL_law_971 rfl (lv_at hl 1 rfl) ?_
  refine lv_aload_n hx hb dL_law_972 rfl (lv_at hl 0 rfl) ?_
  refine lv_iload_n hx hb dL_law_973 rfl (lv_at hl 3 rfl) ?_
  refine lv_iconst (v := (1 : Int32)) hx hb dL_law_974 (by decide) ?_
  refine lv_iadd hx hb dL_law_975 ?_
  refine va_sld hx hb hX hbl hbA hS (i := nI j + 1) h1 dL_law_976 ?_
  refine lv_aload_n hx hb dL_law_977 rfl (lv_at hl 0 rfl) ?_
  refine lv_iload_n hx hb dL_law_978 rfl (lv_at hl 3 rfl) ?_
  refine lv_iconst (v := (2 : Int32)) hx hb dL_law_979 (by decide) ?_
  refine lv_iadd hx hb dL_law_980 ?_
  refine va_sld hx hb hX hbl hbA hS (i := nI j + 2) h2 dL_law_981 ?_
  refine lcall (S := SC) (ad := aC) (N := C) (N' := C') (v := v) (q := 0) (as := [xi (xs (nI j + 1).toNatClampNeg), xi (xs (nI j + 2).toNatClampNeg)]) hCF hK hapC hrC hZC hPC hS hl.1 (by have z := a_X11_ahead (l := l) FU (xs (nI j + 1).toNatClampNeg) (xs (nI j + 2).toNatClampNeg) C; rw [e1] at z; exact z) ll_122 rfl rfl (by decide) (Nat.le_of_ble_eq_true rfl) rfl dL_law_982 (fun H locs hPC hS hoth => ?_)
  have hPM := xother hPM (fun q h z => hdis q z h) hoth
  refine lv_aload_n hx hb dL_law_985 rfl (lv_at hl 2 rfl) ?_
  refine lv_aload_n hx hb dL_law_986 rfl (lv_at hl 0 rfl) ?_
  refine lv_iload_n hx hb dL_law_987 rfl (lv_at hl 3 rfl) ?_
  refine lv_iconst (v := (1 : Int32)) hx hb dL_law_988 (by decide) ?_
  refine lv_iadd hx hb dL_law_989 ?_
  refine va_sld hx hb hX hbl hbA hS (i := nI j + 1) h1 dL_law_990 ?_
  refine lv_aload_n hx hb dL_law_991 rfl (lv_at hl 0 rfl) ?_
  refine lv_iload_n hx hb dL_law_992 rfl (lv_at hl 3 rfl) ?_
  refine lv_iconst (v := (2 : Int32)) hx hb dL_law_993 (by decide) ?_
  refine lv_iadd hx hb dL_law_994 ?_
  refine va_sld hx hb hX hbl hbA hS (i := nI j + 2) h2 dL_law_995 ?_
  refine lcall (S := SM) (ad := aM) (N := R) (N' := R') (v := v) (q := 0) (as := [xi (xs (nI j + 1).toNatClampNeg), xi (xs (nI j + 2).toNatClampNeg)]) hCF hK hapM hrM hZM hPM hS hl.1 (by have z := a_X12_ahead (l := l) FU (xs (nI j + 1).toNatClampNeg) (xs (nI j + 2).toNatClampNeg) R; rw [e2] at z; exact z) ll_125 rfl rfl (by decide) (Nat.le_of_ble_eq_true rfl) rfl dL_law_996 (fun H locs hPM hS hoth => ?_)
  have hPC := xother hPC (fun q h => hdis q h) hoth
  refine lv_icmp_eq (tgt := 2044) hx hb dL_law_999 (by decide) (fun _ => ?_) (fun h => absurd rfl h)
  exact kk C' R' H locs hrel' ⟨hPC, hPM, hS⟩
set_option maxHeartbeats 4000000 in
set_option maxRecDepth 100000 in
theorem law_op24 {p : Program} {l : Launch} {e : Env} {s : State} {m : MethodId} {below : List Frame} {meth : Method} {c : Code} {b Lb : Nat} {xs : Nat → Int32} {D : va_G} {cA : Nat → ClassId} {aC aM : Nat → Nat} {Q : State → Prop} {Rel : xM → xM → Prop} (hop : Op24 Rel) (hLaw : xLaw p s m meth c b Lb xs D cA aC aM) (hX : va_X b Lb xs s s.heap) (hbl : b < s.heap.size) {j : Nat} (h1 : vp_in (nI j + 1) Lb) (h2 : vp_in (nI j + 2) Lb) (h3 : vp_in (nI j + 3) Lb) (h4 : vp_in (nI j + 4) Lb) (h5 : vp_in (nI j + 5) Lb)
    {C R : xM} (hrel : Rel C R) {H : Heap} {locs : List Loc} (hB : xBoth s D cA aC aM C R H locs) {ls : Array Slot} (hl : lv_has ls 4 (xLoc aC aM b j))
    (kk : ∀ (C R : xM) (H : Heap) (locs : List Loc), Rel C R → xBoth s D cA aC aM C R H locs → W p l e room_1 s m #[Value.ref b] below meth c H locs 600000 7302250 Q (F0 m 2044 ls [])) : W p l e room_1 s m #[Value.ref b] below meth c H locs 600000 7302250 Q (F0 m 1004 ls []) := by
  obtain ⟨hCF, hK, hapC, hapM, hdis, hrC, hrM, hZC, hZM⟩ := hLaw
  obtain ⟨hPC, hPM, hS⟩ := hB
  obtain ⟨hx, hb, hml, hown, hts⟩ := id hCF
  have hbA : ¬ (fun q => s.heap.size ≤ q) b := Nat.not_le.mpr hbl
  obtain ⟨v, C', R', e1, e2, hrel'⟩ := hop C R (xs (nI j + 1).toNatClampNeg) hrel
  refine lv_aload_n hx hb dL_law_1004 rfl (lv_at hl 1 rfl) ?_
  refine lv_aload_n hx hb dL_law_1005 rfl (lv_at hl 0 rfl) ?_
  refine lv_iload_n hx hb dL_law_1006 rfl (lv_at hl 3 rfl) ?_
  refine lv_iconst (v := (1 : Int32)) hx hb dL_law_1007 (by decide) ?_
  refine lv_iadd hx hb dL_law_1008 ?_
  refine va_sld hx hb hX hbl hbA hS (i := nI j + 1) h1 dL_law_1009 ?_
  refine lcall (S := SC) (ad := aC) (N := C) (N' := C') (v := v) (q := 0) (as := [xi (xs (nI j + 1).toNatClampNeg)]) hCF hK hapC hrC hZC hPC hS hl.1 (by have z := a_X11_wins (l := l) FU (xs (nI j + 1).toNatClampNeg) C; rw [e1] at z; exact z) ll_126 rfl rfl (by decide) (Nat.le_of_ble_eq_true rfl) rfl dL_law_1010 (fun H locs hPC hS hoth => ?_)
  have hPM := xother hPM (fun q h z => hdis q z h) hoth
  refine lv_aload_n hx hb dL_law_1013 rfl (lv_at hl 2 rfl) ?_
  refine lv_aload_n hx hb dL_law_1014 rfl (lv_at hl 0 rfl) ?_
  refine lv_iload_n hx hb dL_law_1015 rfl (lv_at hl 3 rfl) ?_
  refine lv_iconst (v := (1 : Int32)) hx hb dL_law_1016 (by decide) ?_
  refine lv_iadd hx hb dL_law_1017 ?_
  refine va_sld hx hb hX hbl hbA hS (i := nI j + 1) h1 dL_law_1018 ?_
  refine lcall (S := SM) (ad := aM) (N := R) (N' := R') (v := v) (q := 0) (as := [xi (xs (nI j + 1).toNatClampNeg)]) hCF hK hapM hrM hZM hPM hS hl.1 (by have z := a_X12_wins (l := l) FU (xs (nI j + 1).toNatClampNeg) R; rw [e2] at z; exact z) ll_129 rfl rfl (by decide) (Nat.le_of_ble_eq_true rfl) rfl dL_law_1019 (fun H locs hPM hS hoth => ?_)
  have hPC := xother hPC (fun q h => hdis q h) hoth
  refine lv_icmp_eq (tgt := 2044) hx hb dL_law_1022 (by decide) (fun _ => ?_) (fun h => absurd rfl h)
  exact kk C' R' H locs hrel' ⟨hPC, hPM, hS⟩
set_option maxHeartbeats 4000000 in
set_option maxRecDepth 100000 in
theorem law_op25 {p : Program} {l : Launch} {e : Env} {s : State} {m : MethodId} {below : List Frame} {meth : Method} {c : Code} {b Lb : Nat} {xs : Nat → Int32} {D : va_G} {cA : Nat → ClassId} {aC aM : Nat → Nat} {Q : State → Prop} {Rel : xM → xM → Prop} (hop : Op25 Rel) (hLaw : xLaw p s m meth c b Lb xs D cA aC aM) (hX : va_X b Lb xs s s.heap) (hbl : b < s.heap.size) {j : Nat} (h1 : vp_in (nI j + 1) Lb) (h2 : vp_in (nI j + 2) Lb) (h3 : vp_in (nI j + 3) Lb) (h4 : vp_in (nI j + 4) Lb) (h5 : vp_in (nI j + 5) Lb)
    {C R : xM} (hrel : Rel C R) {H : Heap} {locs : List Loc} (hB : xBoth s D cA aC aM C R H locs) {ls : Array Slot} (hl : lv_has ls 4 (xLoc aC aM b j))
    (kk : ∀ (C R : xM) (H : Heap) (locs : List Loc), Rel C R → xBoth s D cA aC aM C R H locs → W p l e room_1 s m #[Value.ref b] below meth c H locs 600000 7302250 Q (F0 m 2044 ls [])) : W p l e room_1 s m #[Value.ref b] below meth c H locs 600000 7302250 Q (F0 m 1027 ls []) := by
  obtain ⟨hCF, hK, hapC, hapM, hdis, hrC, hrM, hZC, hZM⟩ := hLaw
  obtain ⟨hPC, hPM, hS⟩ := hB
  obtain ⟨hx, hb, hml, hown, hts⟩ := id hCF
  have hbA : ¬ (fun q => s.heap.size ≤ q) b := Nat.not_le.mpr hbl
  obtain ⟨v, C', R', e1, e2, hrel'⟩ := hop C R (xs (nI j + 1).toNatClampNeg) (xs (nI j + 2).toNatClampNeg) hrel
  refine lv_aload_n hx hb dL_law_1027 rfl (lv_at hl 1 rfl) ?_
  refine lv_aload_n hx hb dL_law_1028 rfl (lv_at hl 0 rfl) ?_
  refine lv_iload_n hx hb dL_law_1029 rfl (lv_at hl 3 rfl) ?_
  refine lv_iconst (v := (1 : Int32)) hx hb dL_law_1030 (by decide) ?_
  refine lv_iadd hx hb dL_law_1031 ?_
  refine va_sld hx hb hX hbl hbA hS (i := nI j + 1) h1 dL_law_1032 ?_
  refine lv_aload_n hx hb dL_law_1033 rfl (lv_at hl 0 rfl) ?_
  refine lv_iload_n hx hb dL_law_1034 rfl (lv_at hl 3 rfl) ?_
  refine lv_iconst (v := (2 : Int32)) hx hb dL_law_1035 (by decide) ?_
  refine lv_iadd hx hb dL_law_1036 ?_
  refine va_sld hx hb hX hbl hbA hS (i := nI j + 2) h2 dL_law_1037 ?_
  refine lcall (S := SC) (ad := aC) (N := C) (N' := C') (v := v) (q := 0) (as := [xi (xs (nI j + 1).toNatClampNeg), xi (xs (nI j + 2).toNatClampNeg)]) hCF hK hapC hrC hZC hPC hS hl.1 (by have z := a_X11_cost (l := l) (xs (nI j + 1).toNatClampNeg) (xs (nI j + 2).toNatClampNeg) C; rw [e1] at z; exact z) ll_130 rfl rfl (by decide) (Nat.le_of_ble_eq_true rfl) rfl dL_law_1038 (fun H locs hPC hS hoth => ?_)
  have hPM := xother hPM (fun q h z => hdis q z h) hoth
  refine lv_aload_n hx hb dL_law_1041 rfl (lv_at hl 2 rfl) ?_
  refine lv_aload_n hx hb dL_law_1042 rfl (lv_at hl 0 rfl) ?_
  refine lv_iload_n hx hb dL_law_1043 rfl (lv_at hl 3 rfl) ?_
  refine lv_iconst (v := (1 : Int32)) hx hb dL_law_1044 (by decide) ?_
  refine lv_iadd hx hb dL_law_1045 ?_
  refine va_sld hx hb hX hbl hbA hS (i := nI j + 1) h1 dL_law_1046 ?_
  refine lv_aload_n hx hb dL_law_1047 rfl (lv_at hl 0 rfl) ?_
  refine lv_iload_n hx hb dL_law_1048 rfl (lv_at hl 3 rfl) ?_
  refine lv_iconst (v := (2 : Int32)) hx hb dL_law_1049 (by decide) ?_
  refine lv_iadd hx hb dL_law_1050 ?_
  refine va_sld hx hb hX hbl hbA hS (i := nI j + 2) h2 dL_law_1051 ?_
  refine lcall (S := SM) (ad := aM) (N := R) (N' := R') (v := v) (q := 0) (as := [xi (xs (nI j + 1).toNatClampNeg), xi (xs (nI j + 2).toNatClampNeg)]) hCF hK hapM hrM hZM hPM hS hl.1 (by have z := a_X12_cost (l := l) (xs (nI j + 1).toNatClampNeg) (xs (nI j + 2).toNatClampNeg) R; rw [e2] at z; exact z) ll_133 rfl rfl (by decide) (Nat.le_of_ble_eq_true rfl) rfl dL_law_1052 (fun H locs hPM hS hoth => ?_)
  have hPC := xother hPC (fun q h => hdis q h) hoth
  refine lv_icmp_eq (tgt := 2044) hx hb dL_law_1055 (by decide) (fun _ => ?_) (fun h => absurd rfl h)
  exact kk C' R' H locs hrel' ⟨hPC, hPM, hS⟩
set_option maxHeartbeats 4000000 in
set_option maxRecDepth 100000 in
theorem law_op26 {p : Program} {l : Launch} {e : Env} {s : State} {m : MethodId} {below : List Frame} {meth : Method} {c : Code} {b Lb : Nat} {xs : Nat → Int32} {D : va_G} {cA : Nat → ClassId} {aC aM : Nat → Nat} {Q : State → Prop} {Rel : xM → xM → Prop} (hop : Op26 Rel) (hLaw : xLaw p s m meth c b Lb xs D cA aC aM) (hX : va_X b Lb xs s s.heap) (hbl : b < s.heap.size) {j : Nat} (h1 : vp_in (nI j + 1) Lb) (h2 : vp_in (nI j + 2) Lb) (h3 : vp_in (nI j + 3) Lb) (h4 : vp_in (nI j + 4) Lb) (h5 : vp_in (nI j + 5) Lb)
    {C R : xM} (hrel : Rel C R) {H : Heap} {locs : List Loc} (hB : xBoth s D cA aC aM C R H locs) {ls : Array Slot} (hl : lv_has ls 4 (xLoc aC aM b j))
    (kk : ∀ (C R : xM) (H : Heap) (locs : List Loc), Rel C R → xBoth s D cA aC aM C R H locs → W p l e room_1 s m #[Value.ref b] below meth c H locs 600000 7302250 Q (F0 m 2044 ls [])) : W p l e room_1 s m #[Value.ref b] below meth c H locs 600000 7302250 Q (F0 m 1060 ls []) := by
  obtain ⟨hCF, hK, hapC, hapM, hdis, hrC, hrM, hZC, hZM⟩ := hLaw
  obtain ⟨hPC, hPM, hS⟩ := hB
  obtain ⟨hx, hb, hml, hown, hts⟩ := id hCF
  have hbA : ¬ (fun q => s.heap.size ≤ q) b := Nat.not_le.mpr hbl
  obtain ⟨v, C', R', e1, e2, hrel'⟩ := hop C R (xs (nI j + 1).toNatClampNeg) (xs (nI j + 2).toNatClampNeg) hrel
  refine lv_aload_n hx hb dL_law_1060 rfl (lv_at hl 1 rfl) ?_
  refine lv_aload_n hx hb dL_law_1061 rfl (lv_at hl 0 rfl) ?_
  refine lv_iload_n hx hb dL_law_1062 rfl (lv_at hl 3 rfl) ?_
  refine lv_iconst (v := (1 : Int32)) hx hb dL_law_1063 (by decide) ?_
  refine lv_iadd hx hb dL_law_1064 ?_
  refine va_sld hx hb hX hbl hbA hS (i := nI j + 1) h1 dL_law_1065 ?_
  refine lv_aload_n hx hb dL_law_1066 rfl (lv_at hl 0 rfl) ?_
  refine lv_iload_n hx hb dL_law_1067 rfl (lv_at hl 3 rfl) ?_
  refine lv_iconst (v := (2 : Int32)) hx hb dL_law_1068 (by decide) ?_
  refine lv_iadd hx hb dL_law_1069 ?_
  refine va_sld hx hb hX hbl hbA hS (i := nI j + 2) h2 dL_law_1070 ?_
  refine lcall (S := SC) (ad := aC) (N := C) (N' := C') (v := v) (q := 0) (as := [xi (xs (nI j + 1).toNatClampNeg), xi (xs (nI j + 2).toNatClampNeg)]) hCF hK hapC hrC hZC hPC hS hl.1 (by have z := a_X11_till (l := l) FU (xs (nI j + 1).toNatClampNeg) (xs (nI j + 2).toNatClampNeg) C; rw [e1] at z; exact z) ll_134 rfl rfl (by decide) (Nat.le_of_ble_eq_true rfl) rfl dL_law_1071 (fun H locs hPC hS hoth => ?_)
  have hPM := xother hPM (fun q h z => hdis q z h) hoth
  refine lv_aload_n hx hb dL_law_1074 rfl (lv_at hl 2 rfl) ?_
  refine lv_aload_n hx hb dL_law_1075 rfl (lv_at hl 0 rfl) ?_
  refine lv_iload_n hx hb dL_law_1076 rfl (lv_at hl 3 rfl) ?_
  refine lv_iconst (v := (1 : Int32)) hx hb dL_law_1077 (by decide) ?_
  refine lv_iadd hx hb dL_law_1078 ?_
  refine va_sld hx hb hX hbl hbA hS (i := nI j + 1) h1 dL_law_1079 ?_
  refine lv_aload_n hx hb dL_law_1080 rfl (lv_at hl 0 rfl) ?_
  refine lv_iload_n hx hb dL_law_1081 rfl (lv_at hl 3 rfl) ?_
  refine lv_iconst (v := (2 : Int32)) hx hb dL_law_1082 (by decide) ?_
  refine lv_iadd hx hb dL_law_1083 ?_
  refine va_sld hx hb hX hbl hbA hS (i := nI j + 2) h2 dL_law_1084 ?_
  refine lcall (S := SM) (ad := aM) (N := R) (N' := R') (v := v) (q := 0) (as := [xi (xs (nI j + 1).toNatClampNeg), xi (xs (nI j + 2).toNatClampNeg)]) hCF hK hapM hrM hZM hPM hS hl.1 (by have z := a_X12_till (l := l) FU (xs (nI j + 1).toNatClampNeg) (xs (nI j + 2).toNatClampNeg) R; rw [e2] at z; exact z) ll_137 rfl rfl (by decide) (Nat.le_of_ble_eq_true rfl) rfl dL_law_1085 (fun H locs hPM hS hoth => ?_)
  have hPC := xother hPC (fun q h => hdis q h) hoth
  refine lv_icmp_eq (tgt := 2044) hx hb dL_law_1088 (by decide) (fun _ => ?_) (fun h => absurd rfl h)
  exact kk C' R' H locs hrel' ⟨hPC, hPM, hS⟩
set_option maxHeartbeats 4000000 in
set_option maxRecDepth 100000 in
theorem law_op27 {p : Program} {l : Launch} {e : Env} {s : State} {m : MethodId} {below : List Frame} {meth : Method} {c : Code} {b Lb : Nat} {xs : Nat → Int32} {D : va_G} {cA : Nat → ClassId} {aC aM : Nat → Nat} {Q : State → Prop} {Rel : xM → xM → Prop} (hop : Op27 Rel) (hLaw : xLaw p s m meth c b Lb xs D cA aC aM) (hX : va_X b Lb xs s s.heap) (hbl : b < s.heap.size) {j : Nat} (h1 : vp_in (nI j + 1) Lb) (h2 : vp_in (nI j + 2) Lb) (h3 : vp_in (nI j + 3) Lb) (h4 : vp_in (nI j + 4) Lb) (h5 : vp_in (nI j + 5) Lb)
    {C R : xM} (hrel : Rel C R) {H : Heap} {locs : List Loc} (hB : xBoth s D cA aC aM C R H locs) {ls : Array Slot} (hl : lv_has ls 4 (xLoc aC aM b j))
    (kk : ∀ (C R : xM) (H : Heap) (locs : List Loc), Rel C R → xBoth s D cA aC aM C R H locs → W p l e room_1 s m #[Value.ref b] below meth c H locs 600000 7302250 Q (F0 m 2044 ls [])) : W p l e room_1 s m #[Value.ref b] below meth c H locs 600000 7302250 Q (F0 m 1093 ls []) := by
  obtain ⟨hCF, hK, hapC, hapM, hdis, hrC, hrM, hZC, hZM⟩ := hLaw
  obtain ⟨hPC, hPM, hS⟩ := hB
  obtain ⟨hx, hb, hml, hown, hts⟩ := id hCF
  have hbA : ¬ (fun q => s.heap.size ≤ q) b := Nat.not_le.mpr hbl
  obtain ⟨v, C', R', e1, e2, hrel'⟩ := hop C R (xs (nI j + 1).toNatClampNeg) (xs (nI j + 2).toNatClampNeg) hrel
  refine lv_aload_n hx hb dL_law_1093 rfl (lv_at hl 1 rfl) ?_
  refine lv_aload_n hx hb dL_law_1094 rfl (lv_at hl 0 rfl) ?_
  refine lv_iload_n hx hb dL_law_1095 rfl (lv_at hl 3 rfl) ?_
  refine lv_iconst (v := (1 : Int32)) hx hb dL_law_1096 (by decide) ?_
  refine lv_iadd hx hb dL_law_1097 ?_
  refine va_sld hx hb hX hbl hbA hS (i := nI j + 1) h1 dL_law_1098 ?_
  refine lv_aload_n hx hb dL_law_1099 rfl (lv_at hl 0 rfl) ?_
  refine lv_iload_n hx hb dL_law_1100 rfl (lv_at hl 3 rfl) ?_
  refine lv_iconst (v := (2 : Int32)) hx hb dL_law_1101 (by decide) ?_
  refine lv_iadd hx hb dL_law_1102 ?_
  refine va_sld hx hb hX hbl hbA hS (i := nI j + 2) h2 dL_law_1103 ?_
  refine lcall (S := SC) (ad := aC) (N := C) (N' := C') (v := v) (q := 0) (as := [xi (xs (nI j + 1).toNatClampNeg), xi (xs (nI j + 2).toNatClampNeg)]) hCF hK hapC hrC hZC hPC hS hl.1 (by have z := a_X11_test (l := l) (xs (nI j + 1).toNatClampNeg) (xs (nI j + 2).toNatClampNeg) C; rw [e1] at z; exact z) ll_138 rfl rfl (by decide) (Nat.le_of_ble_eq_true rfl) rfl dL_law_1104 (fun H locs hPC hS hoth => ?_)
  have hPM := xother hPM (fun q h z => hdis q z h) hoth
  refine lv_aload_n hx hb dL_law_1107 rfl (lv_at hl 2 rfl) ?_
  refine lv_aload_n hx hb dL_law_1108 rfl (lv_at hl 0 rfl) ?_
  refine lv_iload_n hx hb dL_law_1109 rfl (lv_at hl 3 rfl) ?_
  refine lv_iconst (v := (1 : Int32)) hx hb dL_law_1110 (by decide) ?_
  refine lv_iadd hx hb dL_law_1111 ?_
  refine va_sld hx hb hX hbl hbA hS (i := nI j + 1) h1 dL_law_1112 ?_
  refine lv_aload_n hx hb dL_law_1113 rfl (lv_at hl 0 rfl) ?_
  refine lv_iload_n hx hb dL_law_1114 rfl (lv_at hl 3 rfl) ?_
  refine lv_iconst (v := (2 : Int32)) hx hb dL_law_1115 (by decide) ?_
  refine lv_iadd hx hb dL_law_1116 ?_
  refine va_sld hx hb hX hbl hbA hS (i := nI j + 2) h2 dL_law_1117 ?_
  refine lcall (S := SM) (ad := aM) (N := R) (N' := R') (v := v) (q := 0) (as := [xi (xs (nI j + 1).toNatClampNeg), xi (xs (nI j + 2).toNatClampNeg)]) hCF hK hapM hrM hZM hPM hS hl.1 (by have z := a_X12_test (l := l) (xs (nI j + 1).toNatClampNeg) (xs (nI j + 2).toNatClampNeg) R; rw [e2] at z; exact z) ll_141 rfl rfl (by decide) (Nat.le_of_ble_eq_true rfl) rfl dL_law_1118 (fun H locs hPM hS hoth => ?_)
  have hPC := xother hPC (fun q h => hdis q h) hoth
  refine lv_icmp_eq (tgt := 2044) hx hb dL_law_1121 (by decide) (fun _ => ?_) (fun h => absurd rfl h)
  exact kk C' R' H locs hrel' ⟨hPC, hPM, hS⟩
set_option maxHeartbeats 4000000 in
set_option maxRecDepth 100000 in
theorem law_op28 {p : Program} {l : Launch} {e : Env} {s : State} {m : MethodId} {below : List Frame} {meth : Method} {c : Code} {b Lb : Nat} {xs : Nat → Int32} {D : va_G} {cA : Nat → ClassId} {aC aM : Nat → Nat} {Q : State → Prop} {Rel : xM → xM → Prop} (hop : Op28 Rel) (hLaw : xLaw p s m meth c b Lb xs D cA aC aM) (hX : va_X b Lb xs s s.heap) (hbl : b < s.heap.size) {j : Nat} (h1 : vp_in (nI j + 1) Lb) (h2 : vp_in (nI j + 2) Lb) (h3 : vp_in (nI j + 3) Lb) (h4 : vp_in (nI j + 4) Lb) (h5 : vp_in (nI j + 5) Lb)
    {C R : xM} (hrel : Rel C R) {H : Heap} {locs : List Loc} (hB : xBoth s D cA aC aM C R H locs) {ls : Array Slot} (hl : lv_has ls 4 (xLoc aC aM b j))
    (kk : ∀ (C R : xM) (H : Heap) (locs : List Loc), Rel C R → xBoth s D cA aC aM C R H locs → W p l e room_1 s m #[Value.ref b] below meth c H locs 600000 7302250 Q (F0 m 2044 ls [])) : W p l e room_1 s m #[Value.ref b] below meth c H locs 600000 7302250 Q (F0 m 1126 ls []) := by
  obtain ⟨hCF, hK, hapC, hapM, hdis, hrC, hrM, hZC, hZM⟩ := hLaw
  obtain ⟨hPC, hPM, hS⟩ := hB
  obtain ⟨hx, hb, hml, hown, hts⟩ := id hCF
  have hbA : ¬ (fun q => s.heap.size ≤ q) b := Nat.not_le.mpr hbl
  obtain ⟨v, C', R', e1, e2, hrel'⟩ := hop C R (xs (nI j + 1).toNatClampNeg) (xs (nI j + 2).toNatClampNeg) hrel
  refine lv_aload_n hx hb dL_law_1126 rfl (lv_at hl 1 rfl) ?_
  refine lv_aload_n hx hb dL_law_1127 rfl (lv_at hl 0 rfl) ?_
  refine lv_iload_n hx hb dL_law_1128 rfl (lv_at hl 3 rfl) ?_
  refine lv_iconst (v := (1 : Int32)) hx hb dL_law_1129 (by decide) ?_
  refine lv_iadd hx hb dL_law_1130 ?_
  refine va_sld hx hb hX hbl hbA hS (i := nI j + 1) h1 dL_law_1131 ?_
  refine lv_aload_n hx hb dL_law_1132 rfl (lv_at hl 0 rfl) ?_
  refine lv_iload_n hx hb dL_law_1133 rfl (lv_at hl 3 rfl) ?_
  refine lv_iconst (v := (2 : Int32)) hx hb dL_law_1134 (by decide) ?_
  refine lv_iadd hx hb dL_law_1135 ?_
  refine va_sld hx hb hX hbl hbA hS (i := nI j + 2) h2 dL_law_1136 ?_
  refine lcall (S := SC) (ad := aC) (N := C) (N' := C') (v := v) (q := 0) (as := [xi (xs (nI j + 1).toNatClampNeg), xi (xs (nI j + 2).toNatClampNeg)]) hCF hK hapC hrC hZC hPC hS hl.1 (by have z := a_X11_sees (l := l) FU (xs (nI j + 1).toNatClampNeg) (xs (nI j + 2).toNatClampNeg) C; rw [e1] at z; exact z) ll_142 rfl rfl (by decide) (Nat.le_of_ble_eq_true rfl) rfl dL_law_1137 (fun H locs hPC hS hoth => ?_)
  have hPM := xother hPM (fun q h z => hdis q z h) hoth
  refine lv_aload_n hx hb dL_law_1140 rfl (lv_at hl 2 rfl) ?_
  refine lv_aload_n hx hb dL_law_1141 rfl (lv_at hl 0 rfl) ?_
  refine lv_iload_n hx hb dL_law_1142 rfl (lv_at hl 3 rfl) ?_
  refine lv_iconst (v := (1 : Int32)) hx hb dL_law_1143 (by decide) ?_
  refine lv_iadd hx hb dL_law_1144 ?_
  refine va_sld hx hb hX hbl hbA hS (i := nI j + 1) h1 dL_law_1145 ?_
  refine lv_aload_n hx hb dL_law_1146 rfl (lv_at hl 0 rfl) ?_
  refine lv_iload_n hx hb dL_law_1147 rfl (lv_at hl 3 rfl) ?_
  refine lv_iconst (v := (2 : Int32)) hx hb dL_law_1148 (by decide) ?_
  refine lv_iadd hx hb dL_law_1149 ?_
  refine va_sld hx hb hX hbl hbA hS (i := nI j + 2) h2 dL_law_1150 ?_
  refine lcall (S := SM) (ad := aM) (N := R) (N' := R') (v := v) (q := 0) (as := [xi (xs (nI j + 1).toNatClampNeg), xi (xs (nI j + 2).toNatClampNeg)]) hCF hK hapM hrM hZM hPM hS hl.1 (by have z := a_X12_sees (l := l) FU (xs (nI j + 1).toNatClampNeg) (xs (nI j + 2).toNatClampNeg) R; rw [e2] at z; exact z) ll_145 rfl rfl (by decide) (Nat.le_of_ble_eq_true rfl) rfl dL_law_1151 (fun H locs hPM hS hoth => ?_)
  have hPC := xother hPC (fun q h => hdis q h) hoth
  refine lv_icmp_eq (tgt := 2044) hx hb dL_law_1154 (by decide) (fun _ => ?_) (fun h => absurd rfl h)
  exact kk C' R' H locs hrel' ⟨hPC, hPM, hS⟩
set_option maxHeartbeats 4000000 in
set_option maxRecDepth 100000 in
theorem law_op29 {p : Program} {l : Launch} {e : Env} {s : State} {m : MethodId} {below : List Frame} {meth : Method} {c : Code} {b Lb : Nat} {xs : Nat → Int32} {D : va_G} {cA : Nat → ClassId} {aC aM : Nat → Nat} {Q : State → Prop} {Rel : xM → xM → Prop} (hop : Op29 Rel) (hLaw : xLaw p s m meth c b Lb xs D cA aC aM) (hX : va_X b Lb xs s s.heap) (hbl : b < s.heap.size) {j : Nat} (h1 : vp_in (nI j + 1) Lb) (h2 : vp_in (nI j + 2) Lb) (h3 : vp_in (nI j + 3) Lb) (h4 : vp_in (nI j + 4) Lb) (h5 : vp_in (nI j + 5) Lb)
    {C R : xM} (hrel : Rel C R) {H : Heap} {locs : List Loc} (hB : xBoth s D cA aC aM C R H locs) {ls : Array Slot} (hl : lv_has ls 4 (xLoc aC aM b j))
    (kk : ∀ (C R : xM) (H : Heap) (locs : List Loc), Rel C R → xBoth s D cA aC aM C R H locs → W p l e room_1 s m #[Value.ref b] below meth c H locs 600000 7302250 Q (F0 m 2044 ls [])) : W p l e room_1 s m #[Value.ref b] below meth c H locs 600000 7302250 Q (F0 m 1159 ls []) := by
  obtain ⟨hCF, hK, hapC, hapM, hdis, hrC, hrM, hZC, hZM⟩ := hLaw
  obtain ⟨hPC, hPM, hS⟩ := hB
  obtain ⟨hx, hb, hml, hown, hts⟩ := id hCF
  have hbA : ¬ (fun q => s.heap.size ≤ q) b := Nat.not_le.mpr hbl
  obtain ⟨v, C', R', e1, e2, hrel'⟩ := hop C R (xs (nI j + 1).toNatClampNeg) hrel
  refine lv_aload_n hx hb dL_law_1159 rfl (lv_at hl 1 rfl) ?_
  refine lv_aload_n hx hb dL_law_1160 rfl (lv_at hl 0 rfl) ?_
  refine lv_iload_n hx hb dL_law_1161 rfl (lv_at hl 3 rfl) ?_
  refine lv_iconst (v := (1 : Int32)) hx hb dL_law_1162 (by decide) ?_
  refine lv_iadd hx hb dL_law_1163 ?_
  refine va_sld hx hb hX hbl hbA hS (i := nI j + 1) h1 dL_law_1164 ?_
  refine lcall (S := SC) (ad := aC) (N := C) (N' := C') (v := v) (q := 0) (as := [xi (xs (nI j + 1).toNatClampNeg)]) hCF hK hapC hrC hZC hPC hS hl.1 (by have z := a_X11_cover (l := l) FU (xs (nI j + 1).toNatClampNeg) C; rw [e1] at z; exact z) ll_146 rfl rfl (by decide) (Nat.le_of_ble_eq_true rfl) rfl dL_law_1165 (fun H locs hPC hS hoth => ?_)
  have hPM := xother hPM (fun q h z => hdis q z h) hoth
  refine lv_aload_n hx hb dL_law_1168 rfl (lv_at hl 2 rfl) ?_
  refine lv_aload_n hx hb dL_law_1169 rfl (lv_at hl 0 rfl) ?_
  refine lv_iload_n hx hb dL_law_1170 rfl (lv_at hl 3 rfl) ?_
  refine lv_iconst (v := (1 : Int32)) hx hb dL_law_1171 (by decide) ?_
  refine lv_iadd hx hb dL_law_1172 ?_
  refine va_sld hx hb hX hbl hbA hS (i := nI j + 1) h1 dL_law_1173 ?_
  refine lcall (S := SM) (ad := aM) (N := R) (N' := R') (v := v) (q := 0) (as := [xi (xs (nI j + 1).toNatClampNeg)]) hCF hK hapM hrM hZM hPM hS hl.1 (by have z := a_X12_cover (l := l) FU (xs (nI j + 1).toNatClampNeg) R; rw [e2] at z; exact z) ll_149 rfl rfl (by decide) (Nat.le_of_ble_eq_true rfl) rfl dL_law_1174 (fun H locs hPM hS hoth => ?_)
  have hPC := xother hPC (fun q h => hdis q h) hoth
  refine lv_icmp_eq (tgt := 2044) hx hb dL_law_1177 (by decide) (fun _ => ?_) (fun h => absurd rfl h)
  exact kk C' R' H locs hrel' ⟨hPC, hPM, hS⟩
set_option maxHeartbeats 4000000 in
set_option maxRecDepth 100000 in
theorem law_op30 {p : Program} {l : Launch} {e : Env} {s : State} {m : MethodId} {below : List Frame} {meth : Method} {c : Code} {b Lb : Nat} {xs : Nat → Int32} {D : va_G} {cA : Nat → ClassId} {aC aM : Nat → Nat} {Q : State → Prop} {Rel : xM → xM → Prop} (hop : Op30 Rel) (hLaw : xLaw p s m meth c b Lb xs D cA aC aM) (hX : va_X b Lb xs s s.heap) (hbl : b < s.heap.size) {j : Nat} (h1 : vp_in (nI j + 1) Lb) (h2 : vp_in (nI j + 2) Lb) (h3 : vp_in (nI j + 3) Lb) (h4 : vp_in (nI j + 4) Lb) (h5 : vp_in (nI j + 5) Lb)
    {C R : xM} (hrel : Rel C R) {H : Heap} {locs : List Loc} (hB : xBoth s D cA aC aM C R H locs) {ls : Array Slot} (hl : lv_has ls 4 (xLoc aC aM b j))
    (kk : ∀ (C R : xM) (H : Heap) (locs : List Loc), Rel C R → xBoth s D cA aC aM C R H locs → W p l e room_1 s m #[Value.ref b] below meth c H locs 600000 7302250 Q (F0 m 2044 ls [])) : W p l e room_1 s m #[Value.ref b] below meth c H locs 600000 7302250 Q (F0 m 1182 ls []) := by
  obtain ⟨hCF, hK, hapC, hapM, hdis, hrC, hrM, hZC, hZM⟩ := hLaw
  obtain ⟨hPC, hPM, hS⟩ := hB
  obtain ⟨hx, hb, hml, hown, hts⟩ := id hCF
  have hbA : ¬ (fun q => s.heap.size ≤ q) b := Nat.not_le.mpr hbl
  obtain ⟨v, C', R', e1, e2, hrel'⟩ := hop C R (xs (nI j + 1).toNatClampNeg) (xs (nI j + 2).toNatClampNeg) (xs (nI j + 3).toNatClampNeg) (xs (nI j + 4).toNatClampNeg) (xs (nI j + 5).toNatClampNeg) hrel
  refine lv_aload_n hx hb dL_law_1182 rfl (lv_at hl 1 rfl) ?_
  refine lv_aload_n hx hb dL_law_1183 rfl (lv_at hl 0 rfl) ?_
  refine lv_iload_n hx hb dL_law_1184 rfl (lv_at hl 3 rfl) ?_
  refine lv_iconst (v := (1 : Int32)) hx hb dL_law_1185 (by decide) ?_
  refine lv_iadd hx hb dL_law_1186 ?_
  refine va_sld hx hb hX hbl hbA hS (i := nI j + 1) h1 dL_law_1187 ?_
  refine lv_aload_n hx hb dL_law_1188 rfl (lv_at hl 0 rfl) ?_
  refine lv_iload_n hx hb dL_law_1189 rfl (lv_at hl 3 rfl) ?_
  refine lv_iconst (v := (2 : Int32)) hx hb dL_law_1190 (by decide) ?_
  refine lv_iadd hx hb dL_law_1191 ?_
  refine va_sld hx hb hX hbl hbA hS (i := nI j + 2) h2 dL_law_1192 ?_
  refine lv_i2l (v := (xs (nI j + 2).toNatClampNeg).toInt64) hx hb dL_law_1193 rfl ?_
  refine lv_bipush (v := (32 : Int32)) hx hb dL_law_1194 (by decide) ?_
  refine lv_lshl (v := (xs (nI j + 2).toNatClampNeg).toInt64 <<< ((32 : Int32).toInt64 &&& 63)) hx hb dL_law_1196 rfl ?_
  refine lv_aload_n hx hb dL_law_1197 rfl (lv_at hl 0 rfl) ?_
  refine lv_iload_n hx hb dL_law_1198 rfl (lv_at hl 3 rfl) ?_
  refine lv_iconst (v := (3 : Int32)) hx hb dL_law_1199 (by decide) ?_
  refine lv_iadd hx hb dL_law_1200 ?_
  refine va_sld hx hb hX hbl hbA hS (i := nI j + 3) h3 dL_law_1201 ?_
  refine lv_i2l (v := (xs (nI j + 3).toNatClampNeg).toInt64) hx hb dL_law_1202 rfl ?_
  refine lv_ldc2 (v := (4294967295 : Int64)) hx hb hown (hts _ (lw_gm 2193 (by decide +kernel) rfl : Jvm.Cond.constantLong RL 150 (4294967295) ∈ lw_g)) dL_law_1203 ?_
  refine lv_land hx hb dL_law_1206 ?_
  refine lv_lor hx hb dL_law_1207 ?_
  refine lv_aload_n hx hb dL_law_1208 rfl (lv_at hl 0 rfl) ?_
  refine lv_iload_n hx hb dL_law_1209 rfl (lv_at hl 3 rfl) ?_
  refine lv_iconst (v := (4 : Int32)) hx hb dL_law_1210 (by decide) ?_
  refine lv_iadd hx hb dL_law_1211 ?_
  refine va_sld hx hb hX hbl hbA hS (i := nI j + 4) h4 dL_law_1212 ?_
  refine lv_aload_n hx hb dL_law_1213 rfl (lv_at hl 0 rfl) ?_
  refine lv_iload_n hx hb dL_law_1214 rfl (lv_at hl 3 rfl) ?_
  refine lv_iconst (v := (5 : Int32)) hx hb dL_law_1215 (by decide) ?_
  refine lv_iadd hx hb dL_law_1216 ?_
  refine va_sld hx hb hX hbl hbA hS (i := nI j + 5) h5 dL_law_1217 ?_
  refine lcall (S := SC) (ad := aC) (N := C) (N' := C') (v := v) (q := 0) (as := [xi (xs (nI j + 1).toNatClampNeg), xl (((xs (nI j + 2).toNatClampNeg).toInt64 <<< ((32 : Int32).toInt64 &&& 63)) ||| ((xs (nI j + 3).toNatClampNeg).toInt64 &&& (4294967295 : Int64))), xi (xs (nI j + 4).toNatClampNeg), xi (xs (nI j + 5).toNatClampNeg)]) hCF hK hapC hrC hZC hPC hS hl.1 (by have z := a_X11_name (l := l) FU (xs (nI j + 1).toNatClampNeg) (((xs (nI j + 2).toNatClampNeg).toInt64 <<< ((32 : Int32).toInt64 &&& 63)) ||| ((xs (nI j + 3).toNatClampNeg).toInt64 &&& (4294967295 : Int64))) (xs (nI j + 4).toNatClampNeg) (xs (nI j + 5).toNatClampNeg) C; rw [e1] at z; exact z) ll_152 rfl rfl (by decide) (Nat.le_of_ble_eq_true rfl) rfl dL_law_1218 (fun H locs hPC hS hoth => ?_)
  have hPM := xother hPM (fun q h z => hdis q z h) hoth
  refine lv_aload_n hx hb dL_law_1221 rfl (lv_at hl 2 rfl) ?_
  refine lv_aload_n hx hb dL_law_1222 rfl (lv_at hl 0 rfl) ?_
  refine lv_iload_n hx hb dL_law_1223 rfl (lv_at hl 3 rfl) ?_
  refine lv_iconst (v := (1 : Int32)) hx hb dL_law_1224 (by decide) ?_
  refine lv_iadd hx hb dL_law_1225 ?_
  refine va_sld hx hb hX hbl hbA hS (i := nI j + 1) h1 dL_law_1226 ?_
  refine lv_aload_n hx hb dL_law_1227 rfl (lv_at hl 0 rfl) ?_
  refine lv_iload_n hx hb dL_law_1228 rfl (lv_at hl 3 rfl) ?_
  refine lv_iconst (v := (2 : Int32)) hx hb dL_law_1229 (by decide) ?_
  refine lv_iadd hx hb dL_law_1230 ?_
  refine va_sld hx hb hX hbl hbA hS (i := nI j + 2) h2 dL_law_1231 ?_
  refine lv_i2l (v := (xs (nI j + 2).toNatClampNeg).toInt64) hx hb dL_law_1232 rfl ?_
  refine lv_bipush (v := (32 : Int32)) hx hb dL_law_1233 (by decide) ?_
  refine lv_lshl (v := (xs (nI j + 2).toNatClampNeg).toInt64 <<< ((32 : Int32).toInt64 &&& 63)) hx hb dL_law_1235 rfl ?_
  refine lv_aload_n hx hb dL_law_1236 rfl (lv_at hl 0 rfl) ?_
  refine lv_iload_n hx hb dL_law_1237 rfl (lv_at hl 3 rfl) ?_
  refine lv_iconst (v := (3 : Int32)) hx hb dL_law_1238 (by decide) ?_
  refine lv_iadd hx hb dL_law_1239 ?_
  refine va_sld hx hb hX hbl hbA hS (i := nI j + 3) h3 dL_law_1240 ?_
  refine lv_i2l (v := (xs (nI j + 3).toNatClampNeg).toInt64) hx hb dL_law_1241 rfl ?_
  refine lv_ldc2 (v := (4294967295 : Int64)) hx hb hown (hts _ (lw_gm 2193 (by decide +kernel) rfl : Jvm.Cond.constantLong RL 150 (4294967295) ∈ lw_g)) dL_law_1242 ?_
  refine lv_land hx hb dL_law_1245 ?_
  refine lv_lor hx hb dL_law_1246 ?_
  refine lv_aload_n hx hb dL_law_1247 rfl (lv_at hl 0 rfl) ?_
  refine lv_iload_n hx hb dL_law_1248 rfl (lv_at hl 3 rfl) ?_
  refine lv_iconst (v := (4 : Int32)) hx hb dL_law_1249 (by decide) ?_
  refine lv_iadd hx hb dL_law_1250 ?_
  refine va_sld hx hb hX hbl hbA hS (i := nI j + 4) h4 dL_law_1251 ?_
  refine lv_aload_n hx hb dL_law_1252 rfl (lv_at hl 0 rfl) ?_
  refine lv_iload_n hx hb dL_law_1253 rfl (lv_at hl 3 rfl) ?_
  refine lv_iconst (v := (5 : Int32)) hx hb dL_law_1254 (by decide) ?_
  refine lv_iadd hx hb dL_law_1255 ?_
  refine va_sld hx hb hX hbl hbA hS (i := nI j + 5) h5 dL_law_1256 ?_
  refine lcall (S := SM) (ad := aM) (N := R) (N' := R') (v := v) (q := 0) (as := [xi (xs (nI j + 1).toNatClampNeg), xl (((xs (nI j + 2).toNatClampNeg).toInt64 <<< ((32 : Int32).toInt64 &&& 63)) ||| ((xs (nI j + 3).toNatClampNeg).toInt64 &&& (4294967295 : Int64))), xi (xs (nI j + 4).toNatClampNeg), xi (xs (nI j + 5).toNatClampNeg)]) hCF hK hapM hrM hZM hPM hS hl.1 (by have z := a_X12_name (l := l) FU (xs (nI j + 1).toNatClampNeg) (((xs (nI j + 2).toNatClampNeg).toInt64 <<< ((32 : Int32).toInt64 &&& 63)) ||| ((xs (nI j + 3).toNatClampNeg).toInt64 &&& (4294967295 : Int64))) (xs (nI j + 4).toNatClampNeg) (xs (nI j + 5).toNatClampNeg) R; rw [e2] at z; exact z) ll_156 rfl rfl (by decide) (Nat.le_of_ble_eq_true rfl) rfl dL_law_1257 (fun H locs hPM hS hoth => ?_)
  have hPC := xother hPC (fun q h => hdis q h) hoth
  refine lv_icmp_eq (tgt := 2044) hx hb dL_law_1260 (by decide) (fun _ => ?_) (fun h => absurd rfl h)
  exact kk C' R' H locs hrel' ⟨hPC, hPM, hS⟩
set_option maxHeartbeats 4000000 in
set_option maxRecDepth 100000 in
theorem law_op31 {p : Program} {l : Launch} {e : Env} {s : State} {m : MethodId} {below : List Frame} {meth : Method} {c : Code} {b Lb : Nat} {xs : Nat → Int32} {D : va_G} {cA : Nat → ClassId} {aC aM : Nat → Nat} {Q : State → Prop} {Rel : xM → xM → Prop} (hop : Op31 Rel) (hLaw : xLaw p s m meth c b Lb xs D cA aC aM) (hX : va_X b Lb xs s s.heap) (hbl : b < s.heap.size) {j : Nat} (h1 : vp_in (nI j + 1) Lb) (h2 : vp_in (nI j + 2) Lb) (h3 : vp_in (nI j + 3) Lb) (h4 : vp_in (nI j + 4) Lb) (h5 : vp_in (nI j + 5) Lb)
    {C R : xM} (hrel : Rel C R) {H : Heap} {locs : List Loc} (hB : xBoth s D cA aC aM C R H locs) {ls : Array Slot} (hl : lv_has ls 4 (xLoc aC aM b j))
    (kk : ∀ (C R : xM) (H : Heap) (locs : List Loc), Rel C R → xBoth s D cA aC aM C R H locs → W p l e room_1 s m #[Value.ref b] below meth c H locs 600000 7302250 Q (F0 m 2044 ls [])) : W p l e room_1 s m #[Value.ref b] below meth c H locs 600000 7302250 Q (F0 m 1265 ls []) := by
  obtain ⟨hCF, hK, hapC, hapM, hdis, hrC, hrM, hZC, hZM⟩ := hLaw
  obtain ⟨hPC, hPM, hS⟩ := hB
  obtain ⟨hx, hb, hml, hown, hts⟩ := id hCF
  have hbA : ¬ (fun q => s.heap.size ≤ q) b := Nat.not_le.mpr hbl
  obtain ⟨v, C', R', e1, e2, hrel'⟩ := hop C R (xs (nI j + 1).toNatClampNeg) (xs (nI j + 2).toNatClampNeg) (xs (nI j + 3).toNatClampNeg) (xs (nI j + 4).toNatClampNeg) hrel
  refine lv_aload_n hx hb dL_law_1265 rfl (lv_at hl 1 rfl) ?_
  refine lv_aload_n hx hb dL_law_1266 rfl (lv_at hl 0 rfl) ?_
  refine lv_iload_n hx hb dL_law_1267 rfl (lv_at hl 3 rfl) ?_
  refine lv_iconst (v := (1 : Int32)) hx hb dL_law_1268 (by decide) ?_
  refine lv_iadd hx hb dL_law_1269 ?_
  refine va_sld hx hb hX hbl hbA hS (i := nI j + 1) h1 dL_law_1270 ?_
  refine lv_aload_n hx hb dL_law_1271 rfl (lv_at hl 0 rfl) ?_
  refine lv_iload_n hx hb dL_law_1272 rfl (lv_at hl 3 rfl) ?_
  refine lv_iconst (v := (2 : Int32)) hx hb dL_law_1273 (by decide) ?_
  refine lv_iadd hx hb dL_law_1274 ?_
  refine va_sld hx hb hX hbl hbA hS (i := nI j + 2) h2 dL_law_1275 ?_
  refine lv_i2l (v := (xs (nI j + 2).toNatClampNeg).toInt64) hx hb dL_law_1276 rfl ?_
  refine lv_bipush (v := (32 : Int32)) hx hb dL_law_1277 (by decide) ?_
  refine lv_lshl (v := (xs (nI j + 2).toNatClampNeg).toInt64 <<< ((32 : Int32).toInt64 &&& 63)) hx hb dL_law_1279 rfl ?_
  refine lv_aload_n hx hb dL_law_1280 rfl (lv_at hl 0 rfl) ?_
  refine lv_iload_n hx hb dL_law_1281 rfl (lv_at hl 3 rfl) ?_
  refine lv_iconst (v := (3 : Int32)) hx hb dL_law_1282 (by decide) ?_
  refine lv_iadd hx hb dL_law_1283 ?_
  refine va_sld hx hb hX hbl hbA hS (i := nI j + 3) h3 dL_law_1284 ?_
  refine lv_i2l (v := (xs (nI j + 3).toNatClampNeg).toInt64) hx hb dL_law_1285 rfl ?_
  refine lv_ldc2 (v := (4294967295 : Int64)) hx hb hown (hts _ (lw_gm 2193 (by decide +kernel) rfl : Jvm.Cond.constantLong RL 150 (4294967295) ∈ lw_g)) dL_law_1286 ?_
  refine lv_land hx hb dL_law_1289 ?_
  refine lv_lor hx hb dL_law_1290 ?_
  refine lv_aload_n hx hb dL_law_1291 rfl (lv_at hl 0 rfl) ?_
  refine lv_iload_n hx hb dL_law_1292 rfl (lv_at hl 3 rfl) ?_
  refine lv_iconst (v := (4 : Int32)) hx hb dL_law_1293 (by decide) ?_
  refine lv_iadd hx hb dL_law_1294 ?_
  refine va_sld hx hb hX hbl hbA hS (i := nI j + 4) h4 dL_law_1295 ?_
  refine lcall (S := SC) (ad := aC) (N := C) (N' := C') (v := v) (q := 0) (as := [xi (xs (nI j + 1).toNatClampNeg), xl (((xs (nI j + 2).toNatClampNeg).toInt64 <<< ((32 : Int32).toInt64 &&& 63)) ||| ((xs (nI j + 3).toNatClampNeg).toInt64 &&& (4294967295 : Int64))), xi (xs (nI j + 4).toNatClampNeg)]) hCF hK hapC hrC hZC hPC hS hl.1 (by have z := a_X11_first (l := l) FU (xs (nI j + 1).toNatClampNeg) (((xs (nI j + 2).toNatClampNeg).toInt64 <<< ((32 : Int32).toInt64 &&& 63)) ||| ((xs (nI j + 3).toNatClampNeg).toInt64 &&& (4294967295 : Int64))) (xs (nI j + 4).toNatClampNeg) C; rw [e1] at z; exact z) ll_157 rfl rfl (by decide) (Nat.le_of_ble_eq_true rfl) rfl dL_law_1296 (fun H locs hPC hS hoth => ?_)
  have hPM := xother hPM (fun q h z => hdis q z h) hoth
  refine lv_aload_n hx hb dL_law_1299 rfl (lv_at hl 2 rfl) ?_
  refine lv_aload_n hx hb dL_law_1300 rfl (lv_at hl 0 rfl) ?_
  refine lv_iload_n hx hb dL_law_1301 rfl (lv_at hl 3 rfl) ?_
  refine lv_iconst (v := (1 : Int32)) hx hb dL_law_1302 (by decide) ?_
  refine lv_iadd hx hb dL_law_1303 ?_
  refine va_sld hx hb hX hbl hbA hS (i := nI j + 1) h1 dL_law_1304 ?_
  refine lv_aload_n hx hb dL_law_1305 rfl (lv_at hl 0 rfl) ?_
  refine lv_iload_n hx hb dL_law_1306 rfl (lv_at hl 3 rfl) ?_
  refine lv_iconst (v := (2 : Int32)) hx hb dL_law_1307 (by decide) ?_
  refine lv_iadd hx hb dL_law_1308 ?_
  refine va_sld hx hb hX hbl hbA hS (i := nI j + 2) h2 dL_law_1309 ?_
  refine lv_i2l (v := (xs (nI j + 2).toNatClampNeg).toInt64) hx hb dL_law_1310 rfl ?_
  refine lv_bipush (v := (32 : Int32)) hx hb dL_law_1311 (by decide) ?_
  refine lv_lshl (v := (xs (nI j + 2).toNatClampNeg).toInt64 <<< ((32 : Int32).toInt64 &&& 63)) hx hb dL_law_1313 rfl ?_
  refine lv_aload_n hx hb dL_law_1314 rfl (lv_at hl 0 rfl) ?_
  refine lv_iload_n hx hb dL_law_1315 rfl (lv_at hl 3 rfl) ?_
  refine lv_iconst (v := (3 : Int32)) hx hb dL_law_1316 (by decide) ?_
  refine lv_iadd hx hb dL_law_1317 ?_
  refine va_sld hx hb hX hbl hbA hS (i := nI j + 3) h3 dL_law_1318 ?_
  refine lv_i2l (v := (xs (nI j + 3).toNatClampNeg).toInt64) hx hb dL_law_1319 rfl ?_
  refine lv_ldc2 (v := (4294967295 : Int64)) hx hb hown (hts _ (lw_gm 2193 (by decide +kernel) rfl : Jvm.Cond.constantLong RL 150 (4294967295) ∈ lw_g)) dL_law_1320 ?_
  refine lv_land hx hb dL_law_1323 ?_
  refine lv_lor hx hb dL_law_1324 ?_
  refine lv_aload_n hx hb dL_law_1325 rfl (lv_at hl 0 rfl) ?_
  refine lv_iload_n hx hb dL_law_1326 rfl (lv_at hl 3 rfl) ?_
  refine lv_iconst (v := (4 : Int32)) hx hb dL_law_1327 (by decide) ?_
  refine lv_iadd hx hb dL_law_1328 ?_
  refine va_sld hx hb hX hbl hbA hS (i := nI j + 4) h4 dL_law_1329 ?_
  refine lcall (S := SM) (ad := aM) (N := R) (N' := R') (v := v) (q := 0) (as := [xi (xs (nI j + 1).toNatClampNeg), xl (((xs (nI j + 2).toNatClampNeg).toInt64 <<< ((32 : Int32).toInt64 &&& 63)) ||| ((xs (nI j + 3).toNatClampNeg).toInt64 &&& (4294967295 : Int64))), xi (xs (nI j + 4).toNatClampNeg)]) hCF hK hapM hrM hZM hPM hS hl.1 (by have z := a_X12_first (l := l) FU (xs (nI j + 1).toNatClampNeg) (((xs (nI j + 2).toNatClampNeg).toInt64 <<< ((32 : Int32).toInt64 &&& 63)) ||| ((xs (nI j + 3).toNatClampNeg).toInt64 &&& (4294967295 : Int64))) (xs (nI j + 4).toNatClampNeg) R; rw [e2] at z; exact z) ll_161 rfl rfl (by decide) (Nat.le_of_ble_eq_true rfl) rfl dL_law_1330 (fun H locs hPM hS hoth => ?_)
  have hPC := xother hPC (fun q h => hdis q h) hoth
  refine lv_icmp_eq (tgt := 2044) hx hb dL_law_1333 (by decide) (fun _ => ?_) (fun h => absurd rfl h)
  exact kk C' R' H locs hrel' ⟨hPC, hPM, hS⟩
set_option maxHeartbeats 4000000 in
set_option maxRecDepth 100000 in
theorem law_op32 {p : Program} {l : Launch} {e : Env} {s : State} {m : MethodId} {below : List Frame} {meth : Method} {c : Code} {b Lb : Nat} {xs : Nat → Int32} {D : va_G} {cA : Nat → ClassId} {aC aM : Nat → Nat} {Q : State → Prop} {Rel : xM → xM → Prop} (hop : Op32 Rel) (hLaw : xLaw p s m meth c b Lb xs D cA aC aM) (hX : va_X b Lb xs s s.heap) (hbl : b < s.heap.size) {j : Nat} (h1 : vp_in (nI j + 1) Lb) (h2 : vp_in (nI j + 2) Lb) (h3 : vp_in (nI j + 3) Lb) (h4 : vp_in (nI j + 4) Lb) (h5 : vp_in (nI j + 5) Lb)
    {C R : xM} (hrel : Rel C R) {H : Heap} {locs : List Loc} (hB : xBoth s D cA aC aM C R H locs) {ls : Array Slot} (hl : lv_has ls 4 (xLoc aC aM b j))
    (kk : ∀ (C R : xM) (H : Heap) (locs : List Loc), Rel C R → xBoth s D cA aC aM C R H locs → W p l e room_1 s m #[Value.ref b] below meth c H locs 600000 7302250 Q (F0 m 2044 ls [])) : W p l e room_1 s m #[Value.ref b] below meth c H locs 600000 7302250 Q (F0 m 1338 ls []) := by
  obtain ⟨hCF, hK, hapC, hapM, hdis, hrC, hrM, hZC, hZM⟩ := hLaw
  obtain ⟨hPC, hPM, hS⟩ := hB
  obtain ⟨hx, hb, hml, hown, hts⟩ := id hCF
  have hbA : ¬ (fun q => s.heap.size ≤ q) b := Nat.not_le.mpr hbl
  obtain ⟨v, C', R', e1, e2, hrel'⟩ := hop C R hrel
  refine lv_aload_n hx hb dL_law_1338 rfl (lv_at hl 1 rfl) ?_
  refine lcall (S := SC) (ad := aC) (N := C) (N' := C') (v := v) (q := 0) (as := []) hCF hK hapC hrC hZC hPC hS hl.1 (by have z := a_X11_known (l := l) FU  C; rw [e1] at z; exact z) ll_162 rfl rfl (by decide) (Nat.le_of_ble_eq_true rfl) rfl dL_law_1339 (fun H locs hPC hS hoth => ?_)
  have hPM := xother hPM (fun q h z => hdis q z h) hoth
  refine lv_aload_n hx hb dL_law_1342 rfl (lv_at hl 2 rfl) ?_
  refine lcall (S := SM) (ad := aM) (N := R) (N' := R') (v := v) (q := 0) (as := []) hCF hK hapM hrM hZM hPM hS hl.1 (by have z := a_X12_known (l := l) FU  R; rw [e2] at z; exact z) ll_165 rfl rfl (by decide) (Nat.le_of_ble_eq_true rfl) rfl dL_law_1343 (fun H locs hPM hS hoth => ?_)
  have hPC := xother hPC (fun q h => hdis q h) hoth
  refine lv_icmp_eq (tgt := 2044) hx hb dL_law_1346 (by decide) (fun _ => ?_) (fun h => absurd rfl h)
  exact kk C' R' H locs hrel' ⟨hPC, hPM, hS⟩
set_option maxHeartbeats 4000000 in
set_option maxRecDepth 100000 in
theorem law_op33 {p : Program} {l : Launch} {e : Env} {s : State} {m : MethodId} {below : List Frame} {meth : Method} {c : Code} {b Lb : Nat} {xs : Nat → Int32} {D : va_G} {cA : Nat → ClassId} {aC aM : Nat → Nat} {Q : State → Prop} {Rel : xM → xM → Prop} (hop : Op33 Rel) (hLaw : xLaw p s m meth c b Lb xs D cA aC aM) (hX : va_X b Lb xs s s.heap) (hbl : b < s.heap.size) {j : Nat} (h1 : vp_in (nI j + 1) Lb) (h2 : vp_in (nI j + 2) Lb) (h3 : vp_in (nI j + 3) Lb) (h4 : vp_in (nI j + 4) Lb) (h5 : vp_in (nI j + 5) Lb)
    {C R : xM} (hrel : Rel C R) {H : Heap} {locs : List Loc} (hB : xBoth s D cA aC aM C R H locs) {ls : Array Slot} (hl : lv_has ls 4 (xLoc aC aM b j))
    (kk : ∀ (C R : xM) (H : Heap) (locs : List Loc), Rel C R → xBoth s D cA aC aM C R H locs → W p l e room_1 s m #[Value.ref b] below meth c H locs 600000 7302250 Q (F0 m 2044 ls [])) : W p l e room_1 s m #[Value.ref b] below meth c H locs 600000 7302250 Q (F0 m 1351 ls []) := by
  obtain ⟨hCF, hK, hapC, hapM, hdis, hrC, hrM, hZC, hZM⟩ := hLaw
  obtain ⟨hPC, hPM, hS⟩ := hB
  obtain ⟨hx, hb, hml, hown, hts⟩ := id hCF
  have hbA : ¬ (fun q => s.heap.size ≤ q) b := Nat.not_le.mpr hbl
  obtain ⟨v, C', R', e1, e2, hrel'⟩ := hop C R (xs (nI j + 1).toNatClampNeg) (xs (nI j + 2).toNatClampNeg) hrel
  refine lv_aload_n hx hb dL_law_1351 rfl (lv_at hl 1 rfl) ?_
  refine lv_aload_n hx hb dL_law_1352 rfl (lv_at hl 0 rfl) ?_
  refine lv_iload_n hx hb dL_law_1353 rfl (lv_at hl 3 rfl) ?_
  refine lv_iconst (v := (1 : Int32)) hx hb dL_law_1354 (by decide) ?_
  refine lv_iadd hx hb dL_law_1355 ?_
  refine va_sld hx hb hX hbl hbA hS (i := nI j + 1) h1 dL_law_1356 ?_
  refine lv_aload_n hx hb dL_law_1357 rfl (lv_at hl 0 rfl) ?_
  refine lv_iload_n hx hb dL_law_1358 rfl (lv_at hl 3 rfl) ?_
  refine lv_iconst (v := (2 : Int32)) hx hb dL_law_1359 (by decide) ?_
  refine lv_iadd hx hb dL_law_1360 ?_
  refine va_sld hx hb hX hbl hbA hS (i := nI j + 2) h2 dL_law_1361 ?_
  refine lcall (S := SC) (ad := aC) (N := C) (N' := C') (v := v) (q := 0) (as := [xi (xs (nI j + 1).toNatClampNeg), xi (xs (nI j + 2).toNatClampNeg)]) hCF hK hapC hrC hZC hPC hS hl.1 (by have z := a_X11_read (l := l) FU (xs (nI j + 1).toNatClampNeg) (xs (nI j + 2).toNatClampNeg) C; rw [e1] at z; exact z) ll_166 rfl rfl (by decide) (Nat.le_of_ble_eq_true rfl) rfl dL_law_1362 (fun H locs hPC hS hoth => ?_)
  have hPM := xother hPM (fun q h z => hdis q z h) hoth
  refine lv_aload_n hx hb dL_law_1365 rfl (lv_at hl 2 rfl) ?_
  refine lv_aload_n hx hb dL_law_1366 rfl (lv_at hl 0 rfl) ?_
  refine lv_iload_n hx hb dL_law_1367 rfl (lv_at hl 3 rfl) ?_
  refine lv_iconst (v := (1 : Int32)) hx hb dL_law_1368 (by decide) ?_
  refine lv_iadd hx hb dL_law_1369 ?_
  refine va_sld hx hb hX hbl hbA hS (i := nI j + 1) h1 dL_law_1370 ?_
  refine lv_aload_n hx hb dL_law_1371 rfl (lv_at hl 0 rfl) ?_
  refine lv_iload_n hx hb dL_law_1372 rfl (lv_at hl 3 rfl) ?_
  refine lv_iconst (v := (2 : Int32)) hx hb dL_law_1373 (by decide) ?_
  refine lv_iadd hx hb dL_law_1374 ?_
  refine va_sld hx hb hX hbl hbA hS (i := nI j + 2) h2 dL_law_1375 ?_
  refine lcall (S := SM) (ad := aM) (N := R) (N' := R') (v := v) (q := 0) (as := [xi (xs (nI j + 1).toNatClampNeg), xi (xs (nI j + 2).toNatClampNeg)]) hCF hK hapM hrM hZM hPM hS hl.1 (by have z := a_X12_read (l := l) FU (xs (nI j + 1).toNatClampNeg) (xs (nI j + 2).toNatClampNeg) R; rw [e2] at z; exact z) ll_169 rfl rfl (by decide) (Nat.le_of_ble_eq_true rfl) rfl dL_law_1376 (fun H locs hPM hS hoth => ?_)
  have hPC := xother hPC (fun q h => hdis q h) hoth
  refine lv_icmp_eq (tgt := 2044) hx hb dL_law_1379 (by decide) (fun _ => ?_) (fun h => absurd rfl h)
  exact kk C' R' H locs hrel' ⟨hPC, hPM, hS⟩
set_option maxHeartbeats 4000000 in
set_option maxRecDepth 100000 in
theorem law_op34 {p : Program} {l : Launch} {e : Env} {s : State} {m : MethodId} {below : List Frame} {meth : Method} {c : Code} {b Lb : Nat} {xs : Nat → Int32} {D : va_G} {cA : Nat → ClassId} {aC aM : Nat → Nat} {Q : State → Prop} {Rel : xM → xM → Prop} (hop : Op34 Rel) (hLaw : xLaw p s m meth c b Lb xs D cA aC aM) (hX : va_X b Lb xs s s.heap) (hbl : b < s.heap.size) {j : Nat} (h1 : vp_in (nI j + 1) Lb) (h2 : vp_in (nI j + 2) Lb) (h3 : vp_in (nI j + 3) Lb) (h4 : vp_in (nI j + 4) Lb) (h5 : vp_in (nI j + 5) Lb)
    {C R : xM} (hrel : Rel C R) {H : Heap} {locs : List Loc} (hB : xBoth s D cA aC aM C R H locs) {ls : Array Slot} (hl : lv_has ls 4 (xLoc aC aM b j))
    (kk : ∀ (C R : xM) (H : Heap) (locs : List Loc), Rel C R → xBoth s D cA aC aM C R H locs → W p l e room_1 s m #[Value.ref b] below meth c H locs 600000 7302250 Q (F0 m 2044 ls [])) : W p l e room_1 s m #[Value.ref b] below meth c H locs 600000 7302250 Q (F0 m 1384 ls []) := by
  obtain ⟨hCF, hK, hapC, hapM, hdis, hrC, hrM, hZC, hZM⟩ := hLaw
  obtain ⟨hPC, hPM, hS⟩ := hB
  obtain ⟨hx, hb, hml, hown, hts⟩ := id hCF
  have hbA : ¬ (fun q => s.heap.size ≤ q) b := Nat.not_le.mpr hbl
  obtain ⟨v, C', R', e1, e2, hrel'⟩ := hop C R (xs (nI j + 1).toNatClampNeg) hrel
  refine lv_aload_n hx hb dL_law_1384 rfl (lv_at hl 1 rfl) ?_
  refine lv_aload_n hx hb dL_law_1385 rfl (lv_at hl 0 rfl) ?_
  refine lv_iload_n hx hb dL_law_1386 rfl (lv_at hl 3 rfl) ?_
  refine lv_iconst (v := (1 : Int32)) hx hb dL_law_1387 (by decide) ?_
  refine lv_iadd hx hb dL_law_1388 ?_
  refine va_sld hx hb hX hbl hbA hS (i := nI j + 1) h1 dL_law_1389 ?_
  refine lcall (S := SC) (ad := aC) (N := C) (N' := C') (v := v) (q := 0) (as := [xi (xs (nI j + 1).toNatClampNeg)]) hCF hK hapC hrC hZC hPC hS hl.1 (by have z := a_X11_limit (l := l) (xs (nI j + 1).toNatClampNeg) C; rw [e1] at z; exact z) ll_170 rfl rfl (by decide) (Nat.le_of_ble_eq_true rfl) rfl dL_law_1390 (fun H locs hPC hS hoth => ?_)
  have hPM := xother hPM (fun q h z => hdis q z h) hoth
  refine lv_aload_n hx hb dL_law_1393 rfl (lv_at hl 2 rfl) ?_
  refine lv_aload_n hx hb dL_law_1394 rfl (lv_at hl 0 rfl) ?_
  refine lv_iload_n hx hb dL_law_1395 rfl (lv_at hl 3 rfl) ?_
  refine lv_iconst (v := (1 : Int32)) hx hb dL_law_1396 (by decide) ?_
  refine lv_iadd hx hb dL_law_1397 ?_
  refine va_sld hx hb hX hbl hbA hS (i := nI j + 1) h1 dL_law_1398 ?_
  refine lcall (S := SM) (ad := aM) (N := R) (N' := R') (v := v) (q := 0) (as := [xi (xs (nI j + 1).toNatClampNeg)]) hCF hK hapM hrM hZM hPM hS hl.1 (by have z := a_X12_limit (l := l) (xs (nI j + 1).toNatClampNeg) R; rw [e2] at z; exact z) ll_173 rfl rfl (by decide) (Nat.le_of_ble_eq_true rfl) rfl dL_law_1399 (fun H locs hPM hS hoth => ?_)
  have hPC := xother hPC (fun q h => hdis q h) hoth
  refine lv_icmp_eq (tgt := 2044) hx hb dL_law_1402 (by decide) (fun _ => ?_) (fun h => absurd rfl h)
  exact kk C' R' H locs hrel' ⟨hPC, hPM, hS⟩
set_option maxHeartbeats 4000000 in
set_option maxRecDepth 100000 in
theorem law_op35 {p : Program} {l : Launch} {e : Env} {s : State} {m : MethodId} {below : List Frame} {meth : Method} {c : Code} {b Lb : Nat} {xs : Nat → Int32} {D : va_G} {cA : Nat → ClassId} {aC aM : Nat → Nat} {Q : State → Prop} {Rel : xM → xM → Prop} (hop : Op35 Rel) (hLaw : xLaw p s m meth c b Lb xs D cA aC aM) (hX : va_X b Lb xs s s.heap) (hbl : b < s.heap.size) {j : Nat} (h1 : vp_in (nI j + 1) Lb) (h2 : vp_in (nI j + 2) Lb) (h3 : vp_in (nI j + 3) Lb) (h4 : vp_in (nI j + 4) Lb) (h5 : vp_in (nI j + 5) Lb)
    {C R : xM} (hrel : Rel C R) {H : Heap} {locs : List Loc} (hB : xBoth s D cA aC aM C R H locs) {ls : Array Slot} (hl : lv_has ls 4 (xLoc aC aM b j))
    (kk : ∀ (C R : xM) (H : Heap) (locs : List Loc), Rel C R → xBoth s D cA aC aM C R H locs → W p l e room_1 s m #[Value.ref b] below meth c H locs 600000 7302250 Q (F0 m 2044 ls [])) : W p l e room_1 s m #[Value.ref b] below meth c H locs 600000 7302250 Q (F0 m 1407 ls []) := by
  obtain ⟨hCF, hK, hapC, hapM, hdis, hrC, hrM, hZC, hZM⟩ := hLaw
  obtain ⟨hPC, hPM, hS⟩ := hB
  obtain ⟨hx, hb, hml, hown, hts⟩ := id hCF
  have hbA : ¬ (fun q => s.heap.size ≤ q) b := Nat.not_le.mpr hbl
  obtain ⟨v, C', R', e1, e2, hrel'⟩ := hop C R (xs (nI j + 1).toNatClampNeg) (xs (nI j + 2).toNatClampNeg) (xs (nI j + 3).toNatClampNeg) hrel
  refine lv_aload_n hx hb dL_law_1407 rfl (lv_at hl 1 rfl) ?_
  refine lv_aload_n hx hb dL_law_1408 rfl (lv_at hl 0 rfl) ?_
  refine lv_iload_n hx hb dL_law_1409 rfl (lv_at hl 3 rfl) ?_
  refine lv_iconst (v := (1 : Int32)) hx hb dL_law_1410 (by decide) ?_
  refine lv_iadd hx hb dL_law_1411 ?_
  refine va_sld hx hb hX hbl hbA hS (i := nI j + 1) h1 dL_law_1412 ?_
  refine lv_aload_n hx hb dL_law_1413 rfl (lv_at hl 0 rfl) ?_
  refine lv_iload_n hx hb dL_law_1414 rfl (lv_at hl 3 rfl) ?_
  refine lv_iconst (v := (2 : Int32)) hx hb dL_law_1415 (by decide) ?_
  refine lv_iadd hx hb dL_law_1416 ?_
  refine va_sld hx hb hX hbl hbA hS (i := nI j + 2) h2 dL_law_1417 ?_
  refine lv_aload_n hx hb dL_law_1418 rfl (lv_at hl 0 rfl) ?_
  refine lv_iload_n hx hb dL_law_1419 rfl (lv_at hl 3 rfl) ?_
  refine lv_iconst (v := (3 : Int32)) hx hb dL_law_1420 (by decide) ?_
  refine lv_iadd hx hb dL_law_1421 ?_
  refine va_sld hx hb hX hbl hbA hS (i := nI j + 3) h3 dL_law_1422 ?_
  refine lcall (S := SC) (ad := aC) (N := C) (N' := C') (v := v) (q := 0) (as := [xi (xs (nI j + 1).toNatClampNeg), xi (xs (nI j + 2).toNatClampNeg), xi (xs (nI j + 3).toNatClampNeg)]) hCF hK hapC hrC hZC hPC hS hl.1 (by have z := a_X11_far (l := l) (xs (nI j + 1).toNatClampNeg) (xs (nI j + 2).toNatClampNeg) (xs (nI j + 3).toNatClampNeg) C; rw [e1] at z; exact z) ll_174 rfl rfl (by decide) (Nat.le_of_ble_eq_true rfl) rfl dL_law_1423 (fun H locs hPC hS hoth => ?_)
  have hPM := xother hPM (fun q h z => hdis q z h) hoth
  refine lv_aload_n hx hb dL_law_1426 rfl (lv_at hl 2 rfl) ?_
  refine lv_aload_n hx hb dL_law_1427 rfl (lv_at hl 0 rfl) ?_
  refine lv_iload_n hx hb dL_law_1428 rfl (lv_at hl 3 rfl) ?_
  refine lv_iconst (v := (1 : Int32)) hx hb dL_law_1429 (by decide) ?_
  refine lv_iadd hx hb dL_law_1430 ?_
  refine va_sld hx hb hX hbl hbA hS (i := nI j + 1) h1 dL_law_1431 ?_
  refine lv_aload_n hx hb dL_law_1432 rfl (lv_at hl 0 rfl) ?_
  refine lv_iload_n hx hb dL_law_1433 rfl (lv_at hl 3 rfl) ?_
  refine lv_iconst (v := (2 : Int32)) hx hb dL_law_1434 (by decide) ?_
  refine lv_iadd hx hb dL_law_1435 ?_
  refine va_sld hx hb hX hbl hbA hS (i := nI j + 2) h2 dL_law_1436 ?_
  refine lv_aload_n hx hb dL_law_1437 rfl (lv_at hl 0 rfl) ?_
  refine lv_iload_n hx hb dL_law_1438 rfl (lv_at hl 3 rfl) ?_
  refine lv_iconst (v := (3 : Int32)) hx hb dL_law_1439 (by decide) ?_
  refine lv_iadd hx hb dL_law_1440 ?_
  refine va_sld hx hb hX hbl hbA hS (i := nI j + 3) h3 dL_law_1441 ?_
  refine lcall (S := SM) (ad := aM) (N := R) (N' := R') (v := v) (q := 0) (as := [xi (xs (nI j + 1).toNatClampNeg), xi (xs (nI j + 2).toNatClampNeg), xi (xs (nI j + 3).toNatClampNeg)]) hCF hK hapM hrM hZM hPM hS hl.1 (by have z := a_X12_far (l := l) FU (xs (nI j + 1).toNatClampNeg) (xs (nI j + 2).toNatClampNeg) (xs (nI j + 3).toNatClampNeg) R; rw [e2] at z; exact z) ll_177 rfl rfl (by decide) (Nat.le_of_ble_eq_true rfl) rfl dL_law_1442 (fun H locs hPM hS hoth => ?_)
  have hPC := xother hPC (fun q h => hdis q h) hoth
  refine lv_icmp_eq (tgt := 2044) hx hb dL_law_1445 (by decide) (fun _ => ?_) (fun h => absurd rfl h)
  exact kk C' R' H locs hrel' ⟨hPC, hPM, hS⟩
set_option maxHeartbeats 4000000 in
set_option maxRecDepth 100000 in
theorem law_op36 {p : Program} {l : Launch} {e : Env} {s : State} {m : MethodId} {below : List Frame} {meth : Method} {c : Code} {b Lb : Nat} {xs : Nat → Int32} {D : va_G} {cA : Nat → ClassId} {aC aM : Nat → Nat} {Q : State → Prop} {Rel : xM → xM → Prop} (hop : Op36 Rel) (hLaw : xLaw p s m meth c b Lb xs D cA aC aM) (hX : va_X b Lb xs s s.heap) (hbl : b < s.heap.size) {j : Nat} (h1 : vp_in (nI j + 1) Lb) (h2 : vp_in (nI j + 2) Lb) (h3 : vp_in (nI j + 3) Lb) (h4 : vp_in (nI j + 4) Lb) (h5 : vp_in (nI j + 5) Lb)
    {C R : xM} (hrel : Rel C R) {H : Heap} {locs : List Loc} (hB : xBoth s D cA aC aM C R H locs) {ls : Array Slot} (hl : lv_has ls 4 (xLoc aC aM b j))
    (kk : ∀ (C R : xM) (H : Heap) (locs : List Loc), Rel C R → xBoth s D cA aC aM C R H locs → W p l e room_1 s m #[Value.ref b] below meth c H locs 600000 7302250 Q (F0 m 2044 ls [])) : W p l e room_1 s m #[Value.ref b] below meth c H locs 600000 7302250 Q (F0 m 1450 ls []) := by
  obtain ⟨hCF, hK, hapC, hapM, hdis, hrC, hrM, hZC, hZM⟩ := hLaw
  obtain ⟨hPC, hPM, hS⟩ := hB
  obtain ⟨hx, hb, hml, hown, hts⟩ := id hCF
  have hbA : ¬ (fun q => s.heap.size ≤ q) b := Nat.not_le.mpr hbl
  obtain ⟨v, C', R', e1, e2, hrel'⟩ := hop C R (xs (nI j + 1).toNatClampNeg) (xs (nI j + 2).toNatClampNeg) hrel
  refine lv_aload_n hx hb dL_law_1450 rfl (lv_at hl 1 rfl) ?_
  refine lv_aload_n hx hb dL_law_1451 rfl (lv_at hl 0 rfl) ?_
  refine lv_iload_n hx hb dL_law_1452 rfl (lv_at hl 3 rfl) ?_
  refine lv_iconst (v := (1 : Int32)) hx hb dL_law_1453 (by decide) ?_
  refine lv_iadd hx hb dL_law_1454 ?_
  refine va_sld hx hb hX hbl hbA hS (i := nI j + 1) h1 dL_law_1455 ?_
  refine lv_aload_n hx hb dL_law_1456 rfl (lv_at hl 0 rfl) ?_
  refine lv_iload_n hx hb dL_law_1457 rfl (lv_at hl 3 rfl) ?_
  refine lv_iconst (v := (2 : Int32)) hx hb dL_law_1458 (by decide) ?_
  refine lv_iadd hx hb dL_law_1459 ?_
  refine va_sld hx hb hX hbl hbA hS (i := nI j + 2) h2 dL_law_1460 ?_
  refine lcall (S := SC) (ad := aC) (N := C) (N' := C') (v := v) (q := 0) (as := [xi (xs (nI j + 1).toNatClampNeg), xi (xs (nI j + 2).toNatClampNeg)]) hCF hK hapC hrC hZC hPC hS hl.1 (by have z := a_X11_goes (l := l) FU (xs (nI j + 1).toNatClampNeg) (xs (nI j + 2).toNatClampNeg) C; rw [e1] at z; exact z) ll_178 rfl rfl (by decide) (Nat.le_of_ble_eq_true rfl) rfl dL_law_1461 (fun H locs hPC hS hoth => ?_)
  have hPM := xother hPM (fun q h z => hdis q z h) hoth
  refine lv_aload_n hx hb dL_law_1464 rfl (lv_at hl 2 rfl) ?_
  refine lv_aload_n hx hb dL_law_1465 rfl (lv_at hl 0 rfl) ?_
  refine lv_iload_n hx hb dL_law_1466 rfl (lv_at hl 3 rfl) ?_
  refine lv_iconst (v := (1 : Int32)) hx hb dL_law_1467 (by decide) ?_
  refine lv_iadd hx hb dL_law_1468 ?_
  refine va_sld hx hb hX hbl hbA hS (i := nI j + 1) h1 dL_law_1469 ?_
  refine lv_aload_n hx hb dL_law_1470 rfl (lv_at hl 0 rfl) ?_
  refine lv_iload_n hx hb dL_law_1471 rfl (lv_at hl 3 rfl) ?_
  refine lv_iconst (v := (2 : Int32)) hx hb dL_law_1472 (by decide) ?_
  refine lv_iadd hx hb dL_law_1473 ?_
  refine va_sld hx hb hX hbl hbA hS (i := nI j + 2) h2 dL_law_1474 ?_
  refine lcall (S := SM) (ad := aM) (N := R) (N' := R') (v := v) (q := 0) (as := [xi (xs (nI j + 1).toNatClampNeg), xi (xs (nI j + 2).toNatClampNeg)]) hCF hK hapM hrM hZM hPM hS hl.1 (by have z := a_X12_goes (l := l) FU (xs (nI j + 1).toNatClampNeg) (xs (nI j + 2).toNatClampNeg) R; rw [e2] at z; exact z) ll_181 rfl rfl (by decide) (Nat.le_of_ble_eq_true rfl) rfl dL_law_1475 (fun H locs hPM hS hoth => ?_)
  have hPC := xother hPC (fun q h => hdis q h) hoth
  refine lv_icmp_eq (tgt := 2044) hx hb dL_law_1478 (by decide) (fun _ => ?_) (fun h => absurd rfl h)
  exact kk C' R' H locs hrel' ⟨hPC, hPM, hS⟩
set_option maxHeartbeats 4000000 in
set_option maxRecDepth 100000 in
theorem law_op37 {p : Program} {l : Launch} {e : Env} {s : State} {m : MethodId} {below : List Frame} {meth : Method} {c : Code} {b Lb : Nat} {xs : Nat → Int32} {D : va_G} {cA : Nat → ClassId} {aC aM : Nat → Nat} {Q : State → Prop} {Rel : xM → xM → Prop} (hop : Op37 Rel) (hLaw : xLaw p s m meth c b Lb xs D cA aC aM) (hX : va_X b Lb xs s s.heap) (hbl : b < s.heap.size) {j : Nat} (h1 : vp_in (nI j + 1) Lb) (h2 : vp_in (nI j + 2) Lb) (h3 : vp_in (nI j + 3) Lb) (h4 : vp_in (nI j + 4) Lb) (h5 : vp_in (nI j + 5) Lb)
    {C R : xM} (hrel : Rel C R) {H : Heap} {locs : List Loc} (hB : xBoth s D cA aC aM C R H locs) {ls : Array Slot} (hl : lv_has ls 4 (xLoc aC aM b j))
    (kk : ∀ (C R : xM) (H : Heap) (locs : List Loc), Rel C R → xBoth s D cA aC aM C R H locs → W p l e room_1 s m #[Value.ref b] below meth c H locs 600000 7302250 Q (F0 m 2044 ls [])) : W p l e room_1 s m #[Value.ref b] below meth c H locs 600000 7302250 Q (F0 m 1483 ls []) := by
  obtain ⟨hCF, hK, hapC, hapM, hdis, hrC, hrM, hZC, hZM⟩ := hLaw
  obtain ⟨hPC, hPM, hS⟩ := hB
  obtain ⟨hx, hb, hml, hown, hts⟩ := id hCF
  have hbA : ¬ (fun q => s.heap.size ≤ q) b := Nat.not_le.mpr hbl
  obtain ⟨v, C', R', e1, e2, hrel'⟩ := hop C R (xs (nI j + 1).toNatClampNeg) hrel
  refine lv_aload_n hx hb dL_law_1483 rfl (lv_at hl 1 rfl) ?_
  refine lv_aload_n hx hb dL_law_1484 rfl (lv_at hl 0 rfl) ?_
  refine lv_iload_n hx hb dL_law_1485 rfl (lv_at hl 3 rfl) ?_
  refine lv_iconst (v := (1 : Int32)) hx hb dL_law_1486 (by decide) ?_
  refine lv_iadd hx hb dL_law_1487 ?_
  refine va_sld hx hb hX hbl hbA hS (i := nI j + 1) h1 dL_law_1488 ?_
  refine lcall (S := SC) (ad := aC) (N := C) (N' := C') (v := v) (q := 0) (as := [xi (xs (nI j + 1).toNatClampNeg)]) hCF hK hapC hrC hZC hPC hS hl.1 (by have z := a_X11_agrees (l := l) FU (xs (nI j + 1).toNatClampNeg) C; rw [e1] at z; exact z) ll_182 rfl rfl (by decide) (Nat.le_of_ble_eq_true rfl) rfl dL_law_1489 (fun H locs hPC hS hoth => ?_)
  have hPM := xother hPM (fun q h z => hdis q z h) hoth
  refine lv_aload_n hx hb dL_law_1492 rfl (lv_at hl 2 rfl) ?_
  refine lv_aload_n hx hb dL_law_1493 rfl (lv_at hl 0 rfl) ?_
  refine lv_iload_n hx hb dL_law_1494 rfl (lv_at hl 3 rfl) ?_
  refine lv_iconst (v := (1 : Int32)) hx hb dL_law_1495 (by decide) ?_
  refine lv_iadd hx hb dL_law_1496 ?_
  refine va_sld hx hb hX hbl hbA hS (i := nI j + 1) h1 dL_law_1497 ?_
  refine lcall (S := SM) (ad := aM) (N := R) (N' := R') (v := v) (q := 0) (as := [xi (xs (nI j + 1).toNatClampNeg)]) hCF hK hapM hrM hZM hPM hS hl.1 (by have z := a_X12_agrees (l := l) FU (xs (nI j + 1).toNatClampNeg) R; rw [e2] at z; exact z) ll_185 rfl rfl (by decide) (Nat.le_of_ble_eq_true rfl) rfl dL_law_1498 (fun H locs hPM hS hoth => ?_)
  have hPC := xother hPC (fun q h => hdis q h) hoth
  refine lv_icmp_eq (tgt := 2044) hx hb dL_law_1501 (by decide) (fun _ => ?_) (fun h => absurd rfl h)
  exact kk C' R' H locs hrel' ⟨hPC, hPM, hS⟩
set_option maxHeartbeats 4000000 in
set_option maxRecDepth 100000 in
theorem law_op38 {p : Program} {l : Launch} {e : Env} {s : State} {m : MethodId} {below : List Frame} {meth : Method} {c : Code} {b Lb : Nat} {xs : Nat → Int32} {D : va_G} {cA : Nat → ClassId} {aC aM : Nat → Nat} {Q : State → Prop} {Rel : xM → xM → Prop} (hop : Op38 Rel) (hLaw : xLaw p s m meth c b Lb xs D cA aC aM) (hX : va_X b Lb xs s s.heap) (hbl : b < s.heap.size) {j : Nat} (h1 : vp_in (nI j + 1) Lb) (h2 : vp_in (nI j + 2) Lb) (h3 : vp_in (nI j + 3) Lb) (h4 : vp_in (nI j + 4) Lb) (h5 : vp_in (nI j + 5) Lb)
    {C R : xM} (hrel : Rel C R) {H : Heap} {locs : List Loc} (hB : xBoth s D cA aC aM C R H locs) {ls : Array Slot} (hl : lv_has ls 4 (xLoc aC aM b j))
    (kk : ∀ (C R : xM) (H : Heap) (locs : List Loc), Rel C R → xBoth s D cA aC aM C R H locs → W p l e room_1 s m #[Value.ref b] below meth c H locs 600000 7302250 Q (F0 m 2044 ls [])) : W p l e room_1 s m #[Value.ref b] below meth c H locs 600000 7302250 Q (F0 m 1506 ls []) := by
  obtain ⟨hCF, hK, hapC, hapM, hdis, hrC, hrM, hZC, hZM⟩ := hLaw
  obtain ⟨hPC, hPM, hS⟩ := hB
  obtain ⟨hx, hb, hml, hown, hts⟩ := id hCF
  have hbA : ¬ (fun q => s.heap.size ≤ q) b := Nat.not_le.mpr hbl
  obtain ⟨v, C', R', e1, e2, hrel'⟩ := hop C R (xs (nI j + 1).toNatClampNeg) hrel
  refine lv_aload_n hx hb dL_law_1506 rfl (lv_at hl 1 rfl) ?_
  refine lv_aload_n hx hb dL_law_1507 rfl (lv_at hl 0 rfl) ?_
  refine lv_iload_n hx hb dL_law_1508 rfl (lv_at hl 3 rfl) ?_
  refine lv_iconst (v := (1 : Int32)) hx hb dL_law_1509 (by decide) ?_
  refine lv_iadd hx hb dL_law_1510 ?_
  refine va_sld hx hb hX hbl hbA hS (i := nI j + 1) h1 dL_law_1511 ?_
  refine lcall (S := SC) (ad := aC) (N := C) (N' := C') (v := v) (q := 0) (as := [xi (xs (nI j + 1).toNatClampNeg)]) hCF hK hapC hrC hZC hPC hS hl.1 (by have z := a_X11_papers (l := l) FU (xs (nI j + 1).toNatClampNeg) C; rw [e1] at z; exact z) ll_186 rfl rfl (by decide) (Nat.le_of_ble_eq_true rfl) rfl dL_law_1512 (fun H locs hPC hS hoth => ?_)
  have hPM := xother hPM (fun q h z => hdis q z h) hoth
  refine lv_aload_n hx hb dL_law_1515 rfl (lv_at hl 2 rfl) ?_
  refine lv_aload_n hx hb dL_law_1516 rfl (lv_at hl 0 rfl) ?_
  refine lv_iload_n hx hb dL_law_1517 rfl (lv_at hl 3 rfl) ?_
  refine lv_iconst (v := (1 : Int32)) hx hb dL_law_1518 (by decide) ?_
  refine lv_iadd hx hb dL_law_1519 ?_
  refine va_sld hx hb hX hbl hbA hS (i := nI j + 1) h1 dL_law_1520 ?_
  refine lcall (S := SM) (ad := aM) (N := R) (N' := R') (v := v) (q := 0) (as := [xi (xs (nI j + 1).toNatClampNeg)]) hCF hK hapM hrM hZM hPM hS hl.1 (by have z := a_X12_papers (l := l) FU (xs (nI j + 1).toNatClampNeg) R; rw [e2] at z; exact z) ll_189 rfl rfl (by decide) (Nat.le_of_ble_eq_true rfl) rfl dL_law_1521 (fun H locs hPM hS hoth => ?_)
  have hPC := xother hPC (fun q h => hdis q h) hoth
  refine lv_icmp_eq (tgt := 2044) hx hb dL_law_1524 (by decide) (fun _ => ?_) (fun h => absurd rfl h)
  exact kk C' R' H locs hrel' ⟨hPC, hPM, hS⟩
set_option maxHeartbeats 4000000 in
set_option maxRecDepth 100000 in
theorem law_op39 {p : Program} {l : Launch} {e : Env} {s : State} {m : MethodId} {below : List Frame} {meth : Method} {c : Code} {b Lb : Nat} {xs : Nat → Int32} {D : va_G} {cA : Nat → ClassId} {aC aM : Nat → Nat} {Q : State → Prop} {Rel : xM → xM → Prop} (hop : Op39 Rel) (hLaw : xLaw p s m meth c b Lb xs D cA aC aM) (hX : va_X b Lb xs s s.heap) (hbl : b < s.heap.size) {j : Nat} (h1 : vp_in (nI j + 1) Lb) (h2 : vp_in (nI j + 2) Lb) (h3 : vp_in (nI j + 3) Lb) (h4 : vp_in (nI j + 4) Lb) (h5 : vp_in (nI j + 5) Lb)
    {C R : xM} (hrel : Rel C R) {H : Heap} {locs : List Loc} (hB : xBoth s D cA aC aM C R H locs) {ls : Array Slot} (hl : lv_has ls 4 (xLoc aC aM b j))
    (kk : ∀ (C R : xM) (H : Heap) (locs : List Loc), Rel C R → xBoth s D cA aC aM C R H locs → W p l e room_1 s m #[Value.ref b] below meth c H locs 600000 7302250 Q (F0 m 2044 ls [])) : W p l e room_1 s m #[Value.ref b] below meth c H locs 600000 7302250 Q (F0 m 1529 ls []) := by
  obtain ⟨hCF, hK, hapC, hapM, hdis, hrC, hrM, hZC, hZM⟩ := hLaw
  obtain ⟨hPC, hPM, hS⟩ := hB
  obtain ⟨hx, hb, hml, hown, hts⟩ := id hCF
  have hbA : ¬ (fun q => s.heap.size ≤ q) b := Nat.not_le.mpr hbl
  obtain ⟨v, C', R', e1, e2, hrel'⟩ := hop C R (xs (nI j + 1).toNatClampNeg) (xs (nI j + 2).toNatClampNeg) hrel
  refine lv_aload_n hx hb dL_law_1529 rfl (lv_at hl 1 rfl) ?_
  refine lv_aload_n hx hb dL_law_1530 rfl (lv_at hl 0 rfl) ?_
  refine lv_iload_n hx hb dL_law_1531 rfl (lv_at hl 3 rfl) ?_
  refine lv_iconst (v := (1 : Int32)) hx hb dL_law_1532 (by decide) ?_
  refine lv_iadd hx hb dL_law_1533 ?_
  refine va_sld hx hb hX hbl hbA hS (i := nI j + 1) h1 dL_law_1534 ?_
  refine lv_aload_n hx hb dL_law_1535 rfl (lv_at hl 0 rfl) ?_
  refine lv_iload_n hx hb dL_law_1536 rfl (lv_at hl 3 rfl) ?_
  refine lv_iconst (v := (2 : Int32)) hx hb dL_law_1537 (by decide) ?_
  refine lv_iadd hx hb dL_law_1538 ?_
  refine va_sld hx hb hX hbl hbA hS (i := nI j + 2) h2 dL_law_1539 ?_
  refine lcall (S := SC) (ad := aC) (N := C) (N' := C') (v := v) (q := 0) (as := [xi (xs (nI j + 1).toNatClampNeg), xi (xs (nI j + 2).toNatClampNeg)]) hCF hK hapC hrC hZC hPC hS hl.1 (by have z := a_X11_writtenFor (l := l) FU (xs (nI j + 1).toNatClampNeg) (xs (nI j + 2).toNatClampNeg) C; rw [e1] at z; exact z) ll_190 rfl rfl (by decide) (Nat.le_of_ble_eq_true rfl) rfl dL_law_1540 (fun H locs hPC hS hoth => ?_)
  have hPM := xother hPM (fun q h z => hdis q z h) hoth
  refine lv_aload_n hx hb dL_law_1543 rfl (lv_at hl 2 rfl) ?_
  refine lv_aload_n hx hb dL_law_1544 rfl (lv_at hl 0 rfl) ?_
  refine lv_iload_n hx hb dL_law_1545 rfl (lv_at hl 3 rfl) ?_
  refine lv_iconst (v := (1 : Int32)) hx hb dL_law_1546 (by decide) ?_
  refine lv_iadd hx hb dL_law_1547 ?_
  refine va_sld hx hb hX hbl hbA hS (i := nI j + 1) h1 dL_law_1548 ?_
  refine lv_aload_n hx hb dL_law_1549 rfl (lv_at hl 0 rfl) ?_
  refine lv_iload_n hx hb dL_law_1550 rfl (lv_at hl 3 rfl) ?_
  refine lv_iconst (v := (2 : Int32)) hx hb dL_law_1551 (by decide) ?_
  refine lv_iadd hx hb dL_law_1552 ?_
  refine va_sld hx hb hX hbl hbA hS (i := nI j + 2) h2 dL_law_1553 ?_
  refine lcall (S := SM) (ad := aM) (N := R) (N' := R') (v := v) (q := 0) (as := [xi (xs (nI j + 1).toNatClampNeg), xi (xs (nI j + 2).toNatClampNeg)]) hCF hK hapM hrM hZM hPM hS hl.1 (by have z := a_X12_writtenFor (l := l) FU (xs (nI j + 1).toNatClampNeg) (xs (nI j + 2).toNatClampNeg) R; rw [e2] at z; exact z) ll_193 rfl rfl (by decide) (Nat.le_of_ble_eq_true rfl) rfl dL_law_1554 (fun H locs hPM hS hoth => ?_)
  have hPC := xother hPC (fun q h => hdis q h) hoth
  refine lv_icmp_eq (tgt := 2044) hx hb dL_law_1557 (by decide) (fun _ => ?_) (fun h => absurd rfl h)
  exact kk C' R' H locs hrel' ⟨hPC, hPM, hS⟩
set_option maxHeartbeats 4000000 in
set_option maxRecDepth 100000 in
theorem law_op40 {p : Program} {l : Launch} {e : Env} {s : State} {m : MethodId} {below : List Frame} {meth : Method} {c : Code} {b Lb : Nat} {xs : Nat → Int32} {D : va_G} {cA : Nat → ClassId} {aC aM : Nat → Nat} {Q : State → Prop} {Rel : xM → xM → Prop} (hop : Op40 Rel) (hLaw : xLaw p s m meth c b Lb xs D cA aC aM) (hX : va_X b Lb xs s s.heap) (hbl : b < s.heap.size) {j : Nat} (h1 : vp_in (nI j + 1) Lb) (h2 : vp_in (nI j + 2) Lb) (h3 : vp_in (nI j + 3) Lb) (h4 : vp_in (nI j + 4) Lb) (h5 : vp_in (nI j + 5) Lb)
    {C R : xM} (hrel : Rel C R) {H : Heap} {locs : List Loc} (hB : xBoth s D cA aC aM C R H locs) {ls : Array Slot} (hl : lv_has ls 4 (xLoc aC aM b j))
    (kk : ∀ (C R : xM) (H : Heap) (locs : List Loc), Rel C R → xBoth s D cA aC aM C R H locs → W p l e room_1 s m #[Value.ref b] below meth c H locs 600000 7302250 Q (F0 m 2044 ls [])) : W p l e room_1 s m #[Value.ref b] below meth c H locs 600000 7302250 Q (F0 m 1562 ls []) := by
  obtain ⟨hCF, hK, hapC, hapM, hdis, hrC, hrM, hZC, hZM⟩ := hLaw
  obtain ⟨hPC, hPM, hS⟩ := hB
  obtain ⟨hx, hb, hml, hown, hts⟩ := id hCF
  have hbA : ¬ (fun q => s.heap.size ≤ q) b := Nat.not_le.mpr hbl
  obtain ⟨v, C', R', e1, e2, hrel'⟩ := hop C R hrel
  refine lv_aload_n hx hb dL_law_1562 rfl (lv_at hl 1 rfl) ?_
  refine lcall (S := SC) (ad := aC) (N := C) (N' := C') (v := v) (q := 0) (as := []) hCF hK hapC hrC hZC hPC hS hl.1 (by have z := a_X11_elected (l := l) FU  C; rw [e1] at z; exact z) ll_194 rfl rfl (by decide) (Nat.le_of_ble_eq_true rfl) rfl dL_law_1563 (fun H locs hPC hS hoth => ?_)
  have hPM := xother hPM (fun q h z => hdis q z h) hoth
  refine lv_aload_n hx hb dL_law_1566 rfl (lv_at hl 2 rfl) ?_
  refine lcall (S := SM) (ad := aM) (N := R) (N' := R') (v := v) (q := 0) (as := []) hCF hK hapM hrM hZM hPM hS hl.1 (by have z := a_X12_elected (l := l) FU  R; rw [e2] at z; exact z) ll_197 rfl rfl (by decide) (Nat.le_of_ble_eq_true rfl) rfl dL_law_1567 (fun H locs hPM hS hoth => ?_)
  have hPC := xother hPC (fun q h => hdis q h) hoth
  refine lv_icmp_eq (tgt := 2044) hx hb dL_law_1570 (by decide) (fun _ => ?_) (fun h => absurd rfl h)
  exact kk C' R' H locs hrel' ⟨hPC, hPM, hS⟩
set_option maxHeartbeats 4000000 in
set_option maxRecDepth 100000 in
theorem law_op41 {p : Program} {l : Launch} {e : Env} {s : State} {m : MethodId} {below : List Frame} {meth : Method} {c : Code} {b Lb : Nat} {xs : Nat → Int32} {D : va_G} {cA : Nat → ClassId} {aC aM : Nat → Nat} {Q : State → Prop} {Rel : xM → xM → Prop} (hop : Op41 Rel) (hLaw : xLaw p s m meth c b Lb xs D cA aC aM) (hX : va_X b Lb xs s s.heap) (hbl : b < s.heap.size) {j : Nat} (h1 : vp_in (nI j + 1) Lb) (h2 : vp_in (nI j + 2) Lb) (h3 : vp_in (nI j + 3) Lb) (h4 : vp_in (nI j + 4) Lb) (h5 : vp_in (nI j + 5) Lb)
    {C R : xM} (hrel : Rel C R) {H : Heap} {locs : List Loc} (hB : xBoth s D cA aC aM C R H locs) {ls : Array Slot} (hl : lv_has ls 4 (xLoc aC aM b j))
    (kk : ∀ (C R : xM) (H : Heap) (locs : List Loc), Rel C R → xBoth s D cA aC aM C R H locs → W p l e room_1 s m #[Value.ref b] below meth c H locs 600000 7302250 Q (F0 m 2044 ls [])) : W p l e room_1 s m #[Value.ref b] below meth c H locs 600000 7302250 Q (F0 m 1575 ls []) := by
  obtain ⟨hCF, hK, hapC, hapM, hdis, hrC, hrM, hZC, hZM⟩ := hLaw
  obtain ⟨hPC, hPM, hS⟩ := hB
  obtain ⟨hx, hb, hml, hown, hts⟩ := id hCF
  have hbA : ¬ (fun q => s.heap.size ≤ q) b := Nat.not_le.mpr hbl
  obtain ⟨v, C', R', e1, e2, hrel'⟩ := hop C R (xs (nI j + 1).toNatClampNeg) (xs (nI j + 2).toNatClampNeg) (xs (nI j + 3).toNatClampNeg) hrel
  refine lv_aload_n hx hb dL_law_1575 rfl (lv_at hl 1 rfl) ?_
  refine lv_aload_n hx hb dL_law_1576 rfl (lv_at hl 0 rfl) ?_
  refine lv_iload_n hx hb dL_law_1577 rfl (lv_at hl 3 rfl) ?_
  refine lv_iconst (v := (1 : Int32)) hx hb dL_law_1578 (by decide) ?_
  refine lv_iadd hx hb dL_law_1579 ?_
  refine va_sld hx hb hX hbl hbA hS (i := nI j + 1) h1 dL_law_1580 ?_
  refine lv_aload_n hx hb dL_law_1581 rfl (lv_at hl 0 rfl) ?_
  refine lv_iload_n hx hb dL_law_1582 rfl (lv_at hl 3 rfl) ?_
  refine lv_iconst (v := (2 : Int32)) hx hb dL_law_1583 (by decide) ?_
  refine lv_iadd hx hb dL_law_1584 ?_
  refine va_sld hx hb hX hbl hbA hS (i := nI j + 2) h2 dL_law_1585 ?_
  refine lv_aload_n hx hb dL_law_1586 rfl (lv_at hl 0 rfl) ?_
  refine lv_iload_n hx hb dL_law_1587 rfl (lv_at hl 3 rfl) ?_
  refine lv_iconst (v := (3 : Int32)) hx hb dL_law_1588 (by decide) ?_
  refine lv_iadd hx hb dL_law_1589 ?_
  refine va_sld hx hb hX hbl hbA hS (i := nI j + 3) h3 dL_law_1590 ?_
  refine lcall (S := SC) (ad := aC) (N := C) (N' := C') (v := v) (q := 0) (as := [xi (xs (nI j + 1).toNatClampNeg), xi (xs (nI j + 2).toNatClampNeg), xi (xs (nI j + 3).toNatClampNeg)]) hCF hK hapC hrC hZC hPC hS hl.1 (by have z := a_X11_absent (l := l) (xs (nI j + 1).toNatClampNeg) (xs (nI j + 2).toNatClampNeg) (xs (nI j + 3).toNatClampNeg) C; rw [e1] at z; exact z) ll_198 rfl rfl (by decide) (Nat.le_of_ble_eq_true rfl) rfl dL_law_1591 (fun H locs hPC hS hoth => ?_)
  have hPM := xother hPM (fun q h z => hdis q z h) hoth
  refine lv_aload_n hx hb dL_law_1594 rfl (lv_at hl 2 rfl) ?_
  refine lv_aload_n hx hb dL_law_1595 rfl (lv_at hl 0 rfl) ?_
  refine lv_iload_n hx hb dL_law_1596 rfl (lv_at hl 3 rfl) ?_
  refine lv_iconst (v := (1 : Int32)) hx hb dL_law_1597 (by decide) ?_
  refine lv_iadd hx hb dL_law_1598 ?_
  refine va_sld hx hb hX hbl hbA hS (i := nI j + 1) h1 dL_law_1599 ?_
  refine lv_aload_n hx hb dL_law_1600 rfl (lv_at hl 0 rfl) ?_
  refine lv_iload_n hx hb dL_law_1601 rfl (lv_at hl 3 rfl) ?_
  refine lv_iconst (v := (2 : Int32)) hx hb dL_law_1602 (by decide) ?_
  refine lv_iadd hx hb dL_law_1603 ?_
  refine va_sld hx hb hX hbl hbA hS (i := nI j + 2) h2 dL_law_1604 ?_
  refine lv_aload_n hx hb dL_law_1605 rfl (lv_at hl 0 rfl) ?_
  refine lv_iload_n hx hb dL_law_1606 rfl (lv_at hl 3 rfl) ?_
  refine lv_iconst (v := (3 : Int32)) hx hb dL_law_1607 (by decide) ?_
  refine lv_iadd hx hb dL_law_1608 ?_
  refine va_sld hx hb hX hbl hbA hS (i := nI j + 3) h3 dL_law_1609 ?_
  refine lcall (S := SM) (ad := aM) (N := R) (N' := R') (v := v) (q := 0) (as := [xi (xs (nI j + 1).toNatClampNeg), xi (xs (nI j + 2).toNatClampNeg), xi (xs (nI j + 3).toNatClampNeg)]) hCF hK hapM hrM hZM hPM hS hl.1 (by have z := a_X12_absent (l := l) (xs (nI j + 1).toNatClampNeg) (xs (nI j + 2).toNatClampNeg) (xs (nI j + 3).toNatClampNeg) R; rw [e2] at z; exact z) ll_201 rfl rfl (by decide) (Nat.le_of_ble_eq_true rfl) rfl dL_law_1610 (fun H locs hPM hS hoth => ?_)
  have hPC := xother hPC (fun q h => hdis q h) hoth
  refine lv_icmp_eq (tgt := 2044) hx hb dL_law_1613 (by decide) (fun _ => ?_) (fun h => absurd rfl h)
  exact kk C' R' H locs hrel' ⟨hPC, hPM, hS⟩
set_option maxHeartbeats 4000000 in
set_option maxRecDepth 100000 in
theorem law_op42 {p : Program} {l : Launch} {e : Env} {s : State} {m : MethodId} {below : List Frame} {meth : Method} {c : Code} {b Lb : Nat} {xs : Nat → Int32} {D : va_G} {cA : Nat → ClassId} {aC aM : Nat → Nat} {Q : State → Prop} {Rel : xM → xM → Prop} (hop : Op42 Rel) (hLaw : xLaw p s m meth c b Lb xs D cA aC aM) (hX : va_X b Lb xs s s.heap) (hbl : b < s.heap.size) {j : Nat} (h1 : vp_in (nI j + 1) Lb) (h2 : vp_in (nI j + 2) Lb) (h3 : vp_in (nI j + 3) Lb) (h4 : vp_in (nI j + 4) Lb) (h5 : vp_in (nI j + 5) Lb)
    {C R : xM} (hrel : Rel C R) {H : Heap} {locs : List Loc} (hB : xBoth s D cA aC aM C R H locs) {ls : Array Slot} (hl : lv_has ls 4 (xLoc aC aM b j))
    (kk : ∀ (C R : xM) (H : Heap) (locs : List Loc), Rel C R → xBoth s D cA aC aM C R H locs → W p l e room_1 s m #[Value.ref b] below meth c H locs 600000 7302250 Q (F0 m 2044 ls [])) : W p l e room_1 s m #[Value.ref b] below meth c H locs 600000 7302250 Q (F0 m 1618 ls []) := by
  obtain ⟨hCF, hK, hapC, hapM, hdis, hrC, hrM, hZC, hZM⟩ := hLaw
  obtain ⟨hPC, hPM, hS⟩ := hB
  obtain ⟨hx, hb, hml, hown, hts⟩ := id hCF
  have hbA : ¬ (fun q => s.heap.size ≤ q) b := Nat.not_le.mpr hbl
  obtain ⟨v, C', R', e1, e2, hrel'⟩ := hop C R (xs (nI j + 1).toNatClampNeg) (xs (nI j + 2).toNatClampNeg) hrel
  refine lv_aload_n hx hb dL_law_1618 rfl (lv_at hl 1 rfl) ?_
  refine lv_aload_n hx hb dL_law_1619 rfl (lv_at hl 0 rfl) ?_
  refine lv_iload_n hx hb dL_law_1620 rfl (lv_at hl 3 rfl) ?_
  refine lv_iconst (v := (1 : Int32)) hx hb dL_law_1621 (by decide) ?_
  refine lv_iadd hx hb dL_law_1622 ?_
  refine va_sld hx hb hX hbl hbA hS (i := nI j + 1) h1 dL_law_1623 ?_
  refine lv_aload_n hx hb dL_law_1624 rfl (lv_at hl 0 rfl) ?_
  refine lv_iload_n hx hb dL_law_1625 rfl (lv_at hl 3 rfl) ?_
  refine lv_iconst (v := (2 : Int32)) hx hb dL_law_1626 (by decide) ?_
  refine lv_iadd hx hb dL_law_1627 ?_
  refine va_sld hx hb hX hbl hbA hS (i := nI j + 2) h2 dL_law_1628 ?_
  refine lcall (S := SC) (ad := aC) (N := C) (N' := C') (v := v) (q := 0) (as := [xi (xs (nI j + 1).toNatClampNeg), xi (xs (nI j + 2).toNatClampNeg)]) hCF hK hapC hrC hZC hPC hS hl.1 (by have z := a_X11_joinedAhead (l := l) FU (xs (nI j + 1).toNatClampNeg) (xs (nI j + 2).toNatClampNeg) C; rw [e1] at z; exact z) ll_202 rfl rfl (by decide) (Nat.le_of_ble_eq_true rfl) rfl dL_law_1629 (fun H locs hPC hS hoth => ?_)
  have hPM := xother hPM (fun q h z => hdis q z h) hoth
  refine lv_aload_n hx hb dL_law_1632 rfl (lv_at hl 2 rfl) ?_
  refine lv_aload_n hx hb dL_law_1633 rfl (lv_at hl 0 rfl) ?_
  refine lv_iload_n hx hb dL_law_1634 rfl (lv_at hl 3 rfl) ?_
  refine lv_iconst (v := (1 : Int32)) hx hb dL_law_1635 (by decide) ?_
  refine lv_iadd hx hb dL_law_1636 ?_
  refine va_sld hx hb hX hbl hbA hS (i := nI j + 1) h1 dL_law_1637 ?_
  refine lv_aload_n hx hb dL_law_1638 rfl (lv_at hl 0 rfl) ?_
  refine lv_iload_n hx hb dL_law_1639 rfl (lv_at hl 3 rfl) ?_
  refine lv_iconst (v := (2 : Int32)) hx hb dL_law_1640 (by decide) ?_
  refine lv_iadd hx hb dL_law_1641 ?_
  refine va_sld hx hb hX hbl hbA hS (i := nI j + 2) h2 dL_law_1642 ?_
  refine lcall (S := SM) (ad := aM) (N := R) (N' := R') (v := v) (q := 0) (as := [xi (xs (nI j + 1).toNatClampNeg), xi (xs (nI j + 2).toNatClampNeg)]) hCF hK hapM hrM hZM hPM hS hl.1 (by have z := a_X12_joinedAhead (l := l) FU (xs (nI j + 1).toNatClampNeg) (xs (nI j + 2).toNatClampNeg) R; rw [e2] at z; exact z) ll_205 rfl rfl (by decide) (Nat.le_of_ble_eq_true rfl) rfl dL_law_1643 (fun H locs hPM hS hoth => ?_)
  have hPC := xother hPC (fun q h => hdis q h) hoth
  refine lv_icmp_eq (tgt := 2044) hx hb dL_law_1646 (by decide) (fun _ => ?_) (fun h => absurd rfl h)
  exact kk C' R' H locs hrel' ⟨hPC, hPM, hS⟩
set_option maxHeartbeats 4000000 in
set_option maxRecDepth 100000 in
theorem law_op43 {p : Program} {l : Launch} {e : Env} {s : State} {m : MethodId} {below : List Frame} {meth : Method} {c : Code} {b Lb : Nat} {xs : Nat → Int32} {D : va_G} {cA : Nat → ClassId} {aC aM : Nat → Nat} {Q : State → Prop} {Rel : xM → xM → Prop} (hop : Op43 Rel) (hLaw : xLaw p s m meth c b Lb xs D cA aC aM) (hX : va_X b Lb xs s s.heap) (hbl : b < s.heap.size) {j : Nat} (h1 : vp_in (nI j + 1) Lb) (h2 : vp_in (nI j + 2) Lb) (h3 : vp_in (nI j + 3) Lb) (h4 : vp_in (nI j + 4) Lb) (h5 : vp_in (nI j + 5) Lb)
    {C R : xM} (hrel : Rel C R) {H : Heap} {locs : List Loc} (hB : xBoth s D cA aC aM C R H locs) {ls : Array Slot} (hl : lv_has ls 4 (xLoc aC aM b j))
    (kk : ∀ (C R : xM) (H : Heap) (locs : List Loc), Rel C R → xBoth s D cA aC aM C R H locs → W p l e room_1 s m #[Value.ref b] below meth c H locs 600000 7302250 Q (F0 m 2044 ls [])) : W p l e room_1 s m #[Value.ref b] below meth c H locs 600000 7302250 Q (F0 m 1651 ls []) := by
  obtain ⟨hCF, hK, hapC, hapM, hdis, hrC, hrM, hZC, hZM⟩ := hLaw
  obtain ⟨hPC, hPM, hS⟩ := hB
  obtain ⟨hx, hb, hml, hown, hts⟩ := id hCF
  have hbA : ¬ (fun q => s.heap.size ≤ q) b := Nat.not_le.mpr hbl
  obtain ⟨v, C', R', e1, e2, hrel'⟩ := hop C R (xs (nI j + 1).toNatClampNeg) (xs (nI j + 2).toNatClampNeg) (xs (nI j + 3).toNatClampNeg) (xs (nI j + 4).toNatClampNeg) hrel
  refine lv_aload_n hx hb dL_law_1651 rfl (lv_at hl 1 rfl) ?_
  refine lv_aload_n hx hb dL_law_1652 rfl (lv_at hl 0 rfl) ?_
  refine lv_iload_n hx hb dL_law_1653 rfl (lv_at hl 3 rfl) ?_
  refine lv_iconst (v := (1 : Int32)) hx hb dL_law_1654 (by decide) ?_
  refine lv_iadd hx hb dL_law_1655 ?_
  refine va_sld hx hb hX hbl hbA hS (i := nI j + 1) h1 dL_law_1656 ?_
  refine lv_aload_n hx hb dL_law_1657 rfl (lv_at hl 0 rfl) ?_
  refine lv_iload_n hx hb dL_law_1658 rfl (lv_at hl 3 rfl) ?_
  refine lv_iconst (v := (2 : Int32)) hx hb dL_law_1659 (by decide) ?_
  refine lv_iadd hx hb dL_law_1660 ?_
  refine va_sld hx hb hX hbl hbA hS (i := nI j + 2) h2 dL_law_1661 ?_
  refine lv_aload_n hx hb dL_law_1662 rfl (lv_at hl 0 rfl) ?_
  refine lv_iload_n hx hb dL_law_1663 rfl (lv_at hl 3 rfl) ?_
  refine lv_iconst (v := (3 : Int32)) hx hb dL_law_1664 (by decide) ?_
  refine lv_iadd hx hb dL_law_1665 ?_
  refine va_sld hx hb hX hbl hbA hS (i := nI j + 3) h3 dL_law_1666 ?_
  refine lv_aload_n hx hb dL_law_1667 rfl (lv_at hl 0 rfl) ?_
  refine lv_iload_n hx hb dL_law_1668 rfl (lv_at hl 3 rfl) ?_
  refine lv_iconst (v := (4 : Int32)) hx hb dL_law_1669 (by decide) ?_
  refine lv_iadd hx hb dL_law_1670 ?_
  refine va_sld hx hb hX hbl hbA hS (i := nI j + 4) h4 dL_law_1671 ?_
  refine lcall (S := SC) (ad := aC) (N := C) (N' := C') (v := v) (q := 0) (as := [xi (xs (nI j + 1).toNatClampNeg), xi (xs (nI j + 2).toNatClampNeg), xi (xs (nI j + 3).toNatClampNeg), xi (xs (nI j + 4).toNatClampNeg)]) hCF hK hapC hrC hZC hPC hS hl.1 (by have z := a_X11_event (l := l) (xs (nI j + 1).toNatClampNeg) (xs (nI j + 2).toNatClampNeg) (xs (nI j + 3).toNatClampNeg) (xs (nI j + 4).toNatClampNeg) C; rw [e1] at z; exact z) ll_206 rfl rfl (by decide) (Nat.le_of_ble_eq_true rfl) rfl dL_law_1672 (fun H locs hPC hS hoth => ?_)
  have hPM := xother hPM (fun q h z => hdis q z h) hoth
  refine lv_aload_n hx hb dL_law_1675 rfl (lv_at hl 2 rfl) ?_
  refine lv_aload_n hx hb dL_law_1676 rfl (lv_at hl 0 rfl) ?_
  refine lv_iload_n hx hb dL_law_1677 rfl (lv_at hl 3 rfl) ?_
  refine lv_iconst (v := (1 : Int32)) hx hb dL_law_1678 (by decide) ?_
  refine lv_iadd hx hb dL_law_1679 ?_
  refine va_sld hx hb hX hbl hbA hS (i := nI j + 1) h1 dL_law_1680 ?_
  refine lv_aload_n hx hb dL_law_1681 rfl (lv_at hl 0 rfl) ?_
  refine lv_iload_n hx hb dL_law_1682 rfl (lv_at hl 3 rfl) ?_
  refine lv_iconst (v := (2 : Int32)) hx hb dL_law_1683 (by decide) ?_
  refine lv_iadd hx hb dL_law_1684 ?_
  refine va_sld hx hb hX hbl hbA hS (i := nI j + 2) h2 dL_law_1685 ?_
  refine lv_aload_n hx hb dL_law_1686 rfl (lv_at hl 0 rfl) ?_
  refine lv_iload_n hx hb dL_law_1687 rfl (lv_at hl 3 rfl) ?_
  refine lv_iconst (v := (3 : Int32)) hx hb dL_law_1688 (by decide) ?_
  refine lv_iadd hx hb dL_law_1689 ?_
  refine va_sld hx hb hX hbl hbA hS (i := nI j + 3) h3 dL_law_1690 ?_
  refine lv_aload_n hx hb dL_law_1691 rfl (lv_at hl 0 rfl) ?_
  refine lv_iload_n hx hb dL_law_1692 rfl (lv_at hl 3 rfl) ?_
  refine lv_iconst (v := (4 : Int32)) hx hb dL_law_1693 (by decide) ?_
  refine lv_iadd hx hb dL_law_1694 ?_
  refine va_sld hx hb hX hbl hbA hS (i := nI j + 4) h4 dL_law_1695 ?_
  refine lcall (S := SM) (ad := aM) (N := R) (N' := R') (v := v) (q := 0) (as := [xi (xs (nI j + 1).toNatClampNeg), xi (xs (nI j + 2).toNatClampNeg), xi (xs (nI j + 3).toNatClampNeg), xi (xs (nI j + 4).toNatClampNeg)]) hCF hK hapM hrM hZM hPM hS hl.1 (by have z := a_X12_event (l := l) (xs (nI j + 1).toNatClampNeg) (xs (nI j + 2).toNatClampNeg) (xs (nI j + 3).toNatClampNeg) (xs (nI j + 4).toNatClampNeg) R; rw [e2] at z; exact z) ll_209 rfl rfl (by decide) (Nat.le_of_ble_eq_true rfl) rfl dL_law_1696 (fun H locs hPM hS hoth => ?_)
  have hPC := xother hPC (fun q h => hdis q h) hoth
  refine lv_icmp_eq (tgt := 2044) hx hb dL_law_1699 (by decide) (fun _ => ?_) (fun h => absurd rfl h)
  exact kk C' R' H locs hrel' ⟨hPC, hPM, hS⟩
set_option maxHeartbeats 4000000 in
set_option maxRecDepth 100000 in
theorem law_op44 {p : Program} {l : Launch} {e : Env} {s : State} {m : MethodId} {below : List Frame} {meth : Method} {c : Code} {b Lb : Nat} {xs : Nat → Int32} {D : va_G} {cA : Nat → ClassId} {aC aM : Nat → Nat} {Q : State → Prop} {Rel : xM → xM → Prop} (hop : Op44 Rel) (hLaw : xLaw p s m meth c b Lb xs D cA aC aM) (hX : va_X b Lb xs s s.heap) (hbl : b < s.heap.size) {j : Nat} (h1 : vp_in (nI j + 1) Lb) (h2 : vp_in (nI j + 2) Lb) (h3 : vp_in (nI j + 3) Lb) (h4 : vp_in (nI j + 4) Lb) (h5 : vp_in (nI j + 5) Lb)
    {C R : xM} (hrel : Rel C R) {H : Heap} {locs : List Loc} (hB : xBoth s D cA aC aM C R H locs) {ls : Array Slot} (hl : lv_has ls 4 (xLoc aC aM b j))
    (kk : ∀ (C R : xM) (H : Heap) (locs : List Loc), Rel C R → xBoth s D cA aC aM C R H locs → W p l e room_1 s m #[Value.ref b] below meth c H locs 600000 7302250 Q (F0 m 2044 ls [])) : W p l e room_1 s m #[Value.ref b] below meth c H locs 600000 7302250 Q (F0 m 1704 ls []) := by
  obtain ⟨hCF, hK, hapC, hapM, hdis, hrC, hrM, hZC, hZM⟩ := hLaw
  obtain ⟨hPC, hPM, hS⟩ := hB
  obtain ⟨hx, hb, hml, hown, hts⟩ := id hCF
  have hbA : ¬ (fun q => s.heap.size ≤ q) b := Nat.not_le.mpr hbl
  obtain ⟨v, C', R', e1, e2, hrel'⟩ := hop C R (xs (nI j + 1).toNatClampNeg) hrel
  refine lv_aload_n hx hb dL_law_1704 rfl (lv_at hl 1 rfl) ?_
  refine lv_aload_n hx hb dL_law_1705 rfl (lv_at hl 0 rfl) ?_
  refine lv_iload_n hx hb dL_law_1706 rfl (lv_at hl 3 rfl) ?_
  refine lv_iconst (v := (1 : Int32)) hx hb dL_law_1707 (by decide) ?_
  refine lv_iadd hx hb dL_law_1708 ?_
  refine va_sld hx hb hX hbl hbA hS (i := nI j + 1) h1 dL_law_1709 ?_
  refine lcall (S := SC) (ad := aC) (N := C) (N' := C') (v := v) (q := 0) (as := [xi (xs (nI j + 1).toNatClampNeg)]) hCF hK hapC hrC hZC hPC hS hl.1 (by have z := a_X11_badOnes (l := l) FU (xs (nI j + 1).toNatClampNeg) C; rw [e1] at z; exact z) ll_210 rfl rfl (by decide) (Nat.le_of_ble_eq_true rfl) rfl dL_law_1710 (fun H locs hPC hS hoth => ?_)
  have hPM := xother hPM (fun q h z => hdis q z h) hoth
  refine lv_aload_n hx hb dL_law_1713 rfl (lv_at hl 2 rfl) ?_
  refine lv_aload_n hx hb dL_law_1714 rfl (lv_at hl 0 rfl) ?_
  refine lv_iload_n hx hb dL_law_1715 rfl (lv_at hl 3 rfl) ?_
  refine lv_iconst (v := (1 : Int32)) hx hb dL_law_1716 (by decide) ?_
  refine lv_iadd hx hb dL_law_1717 ?_
  refine va_sld hx hb hX hbl hbA hS (i := nI j + 1) h1 dL_law_1718 ?_
  refine lcall (S := SM) (ad := aM) (N := R) (N' := R') (v := v) (q := 0) (as := [xi (xs (nI j + 1).toNatClampNeg)]) hCF hK hapM hrM hZM hPM hS hl.1 (by have z := a_X12_badOnes (l := l) FU (xs (nI j + 1).toNatClampNeg) R; rw [e2] at z; exact z) ll_213 rfl rfl (by decide) (Nat.le_of_ble_eq_true rfl) rfl dL_law_1719 (fun H locs hPM hS hoth => ?_)
  have hPC := xother hPC (fun q h => hdis q h) hoth
  refine lv_icmp_eq (tgt := 2044) hx hb dL_law_1722 (by decide) (fun _ => ?_) (fun h => absurd rfl h)
  exact kk C' R' H locs hrel' ⟨hPC, hPM, hS⟩
set_option maxHeartbeats 4000000 in
set_option maxRecDepth 100000 in
theorem law_op45 {p : Program} {l : Launch} {e : Env} {s : State} {m : MethodId} {below : List Frame} {meth : Method} {c : Code} {b Lb : Nat} {xs : Nat → Int32} {D : va_G} {cA : Nat → ClassId} {aC aM : Nat → Nat} {Q : State → Prop} {Rel : xM → xM → Prop} (hop : Op45 Rel) (hLaw : xLaw p s m meth c b Lb xs D cA aC aM) (hX : va_X b Lb xs s s.heap) (hbl : b < s.heap.size) {j : Nat} (h1 : vp_in (nI j + 1) Lb) (h2 : vp_in (nI j + 2) Lb) (h3 : vp_in (nI j + 3) Lb) (h4 : vp_in (nI j + 4) Lb) (h5 : vp_in (nI j + 5) Lb)
    {C R : xM} (hrel : Rel C R) {H : Heap} {locs : List Loc} (hB : xBoth s D cA aC aM C R H locs) {ls : Array Slot} (hl : lv_has ls 4 (xLoc aC aM b j))
    (kk : ∀ (C R : xM) (H : Heap) (locs : List Loc), Rel C R → xBoth s D cA aC aM C R H locs → W p l e room_1 s m #[Value.ref b] below meth c H locs 600000 7302250 Q (F0 m 2044 ls [])) : W p l e room_1 s m #[Value.ref b] below meth c H locs 600000 7302250 Q (F0 m 1727 ls []) := by
  obtain ⟨hCF, hK, hapC, hapM, hdis, hrC, hrM, hZC, hZM⟩ := hLaw
  obtain ⟨hPC, hPM, hS⟩ := hB
  obtain ⟨hx, hb, hml, hown, hts⟩ := id hCF
  have hbA : ¬ (fun q => s.heap.size ≤ q) b := Nat.not_le.mpr hbl
  obtain ⟨v, C', R', e1, e2, hrel'⟩ := hop C R (xs (nI j + 1).toNatClampNeg) (xs (nI j + 2).toNatClampNeg) (xs (nI j + 3).toNatClampNeg) hrel
  refine lv_aload_n hx hb dL_law_1727 rfl (lv_at hl 1 rfl) ?_
  refine lv_aload_n hx hb dL_law_1728 rfl (lv_at hl 0 rfl) ?_
  refine lv_iload_n hx hb dL_law_1729 rfl (lv_at hl 3 rfl) ?_
  refine lv_iconst (v := (1 : Int32)) hx hb dL_law_1730 (by decide) ?_
  refine lv_iadd hx hb dL_law_1731 ?_
  refine va_sld hx hb hX hbl hbA hS (i := nI j + 1) h1 dL_law_1732 ?_
  refine lv_aload_n hx hb dL_law_1733 rfl (lv_at hl 0 rfl) ?_
  refine lv_iload_n hx hb dL_law_1734 rfl (lv_at hl 3 rfl) ?_
  refine lv_iconst (v := (2 : Int32)) hx hb dL_law_1735 (by decide) ?_
  refine lv_iadd hx hb dL_law_1736 ?_
  refine va_sld hx hb hX hbl hbA hS (i := nI j + 2) h2 dL_law_1737 ?_
  refine lv_aload_n hx hb dL_law_1738 rfl (lv_at hl 0 rfl) ?_
  refine lv_iload_n hx hb dL_law_1739 rfl (lv_at hl 3 rfl) ?_
  refine lv_iconst (v := (3 : Int32)) hx hb dL_law_1740 (by decide) ?_
  refine lv_iadd hx hb dL_law_1741 ?_
  refine va_sld hx hb hX hbl hbA hS (i := nI j + 3) h3 dL_law_1742 ?_
  refine lcall (S := SC) (ad := aC) (N := C) (N' := C') (v := v) (q := 0) (as := [xi (xs (nI j + 1).toNatClampNeg), xi (xs (nI j + 2).toNatClampNeg), xi (xs (nI j + 3).toNatClampNeg)]) hCF hK hapC hrC hZC hPC hS hl.1 (by have z := a_X11_exposed (l := l) FU (xs (nI j + 1).toNatClampNeg) (xs (nI j + 2).toNatClampNeg) (xs (nI j + 3).toNatClampNeg) C; rw [e1] at z; exact z) ll_214 rfl rfl (by decide) (Nat.le_of_ble_eq_true rfl) rfl dL_law_1743 (fun H locs hPC hS hoth => ?_)
  have hPM := xother hPM (fun q h z => hdis q z h) hoth
  refine lv_aload_n hx hb dL_law_1746 rfl (lv_at hl 2 rfl) ?_
  refine lv_aload_n hx hb dL_law_1747 rfl (lv_at hl 0 rfl) ?_
  refine lv_iload_n hx hb dL_law_1748 rfl (lv_at hl 3 rfl) ?_
  refine lv_iconst (v := (1 : Int32)) hx hb dL_law_1749 (by decide) ?_
  refine lv_iadd hx hb dL_law_1750 ?_
  refine va_sld hx hb hX hbl hbA hS (i := nI j + 1) h1 dL_law_1751 ?_
  refine lv_aload_n hx hb dL_law_1752 rfl (lv_at hl 0 rfl) ?_
  refine lv_iload_n hx hb dL_law_1753 rfl (lv_at hl 3 rfl) ?_
  refine lv_iconst (v := (2 : Int32)) hx hb dL_law_1754 (by decide) ?_
  refine lv_iadd hx hb dL_law_1755 ?_
  refine va_sld hx hb hX hbl hbA hS (i := nI j + 2) h2 dL_law_1756 ?_
  refine lv_aload_n hx hb dL_law_1757 rfl (lv_at hl 0 rfl) ?_
  refine lv_iload_n hx hb dL_law_1758 rfl (lv_at hl 3 rfl) ?_
  refine lv_iconst (v := (3 : Int32)) hx hb dL_law_1759 (by decide) ?_
  refine lv_iadd hx hb dL_law_1760 ?_
  refine va_sld hx hb hX hbl hbA hS (i := nI j + 3) h3 dL_law_1761 ?_
  refine lcall (S := SM) (ad := aM) (N := R) (N' := R') (v := v) (q := 0) (as := [xi (xs (nI j + 1).toNatClampNeg), xi (xs (nI j + 2).toNatClampNeg), xi (xs (nI j + 3).toNatClampNeg)]) hCF hK hapM hrM hZM hPM hS hl.1 (by have z := a_X12_exposed (l := l) FU (xs (nI j + 1).toNatClampNeg) (xs (nI j + 2).toNatClampNeg) (xs (nI j + 3).toNatClampNeg) R; rw [e2] at z; exact z) ll_217 rfl rfl (by decide) (Nat.le_of_ble_eq_true rfl) rfl dL_law_1762 (fun H locs hPM hS hoth => ?_)
  have hPC := xother hPC (fun q h => hdis q h) hoth
  refine lv_icmp_eq (tgt := 2044) hx hb dL_law_1765 (by decide) (fun _ => ?_) (fun h => absurd rfl h)
  exact kk C' R' H locs hrel' ⟨hPC, hPM, hS⟩
set_option maxHeartbeats 4000000 in
set_option maxRecDepth 100000 in
theorem law_op46 {p : Program} {l : Launch} {e : Env} {s : State} {m : MethodId} {below : List Frame} {meth : Method} {c : Code} {b Lb : Nat} {xs : Nat → Int32} {D : va_G} {cA : Nat → ClassId} {aC aM : Nat → Nat} {Q : State → Prop} {Rel : xM → xM → Prop} (hop : Op46 Rel) (hLaw : xLaw p s m meth c b Lb xs D cA aC aM) (hX : va_X b Lb xs s s.heap) (hbl : b < s.heap.size) {j : Nat} (h1 : vp_in (nI j + 1) Lb) (h2 : vp_in (nI j + 2) Lb) (h3 : vp_in (nI j + 3) Lb) (h4 : vp_in (nI j + 4) Lb) (h5 : vp_in (nI j + 5) Lb)
    {C R : xM} (hrel : Rel C R) {H : Heap} {locs : List Loc} (hB : xBoth s D cA aC aM C R H locs) {ls : Array Slot} (hl : lv_has ls 4 (xLoc aC aM b j))
    (kk : ∀ (C R : xM) (H : Heap) (locs : List Loc), Rel C R → xBoth s D cA aC aM C R H locs → W p l e room_1 s m #[Value.ref b] below meth c H locs 600000 7302250 Q (F0 m 2044 ls [])) : W p l e room_1 s m #[Value.ref b] below meth c H locs 600000 7302250 Q (F0 m 1770 ls []) := by
  obtain ⟨hCF, hK, hapC, hapM, hdis, hrC, hrM, hZC, hZM⟩ := hLaw
  obtain ⟨hPC, hPM, hS⟩ := hB
  obtain ⟨hx, hb, hml, hown, hts⟩ := id hCF
  have hbA : ¬ (fun q => s.heap.size ≤ q) b := Nat.not_le.mpr hbl
  obtain ⟨v, C', R', e1, e2, hrel'⟩ := hop C R (xs (nI j + 1).toNatClampNeg) (xs (nI j + 2).toNatClampNeg) hrel
  refine lv_aload_n hx hb dL_law_1770 rfl (lv_at hl 1 rfl) ?_
  refine lv_aload_n hx hb dL_law_1771 rfl (lv_at hl 0 rfl) ?_
  refine lv_iload_n hx hb dL_law_1772 rfl (lv_at hl 3 rfl) ?_
  refine lv_iconst (v := (1 : Int32)) hx hb dL_law_1773 (by decide) ?_
  refine lv_iadd hx hb dL_law_1774 ?_
  refine va_sld hx hb hX hbl hbA hS (i := nI j + 1) h1 dL_law_1775 ?_
  refine lv_aload_n hx hb dL_law_1776 rfl (lv_at hl 0 rfl) ?_
  refine lv_iload_n hx hb dL_law_1777 rfl (lv_at hl 3 rfl) ?_
  refine lv_iconst (v := (2 : Int32)) hx hb dL_law_1778 (by decide) ?_
  refine lv_iadd hx hb dL_law_1779 ?_
  refine va_sld hx hb hX hbl hbA hS (i := nI j + 2) h2 dL_law_1780 ?_
  refine lcall (S := SC) (ad := aC) (N := C) (N' := C') (v := v) (q := 0) (as := [xi (xs (nI j + 1).toNatClampNeg), xi (xs (nI j + 2).toNatClampNeg)]) hCF hK hapC hrC hZC hPC hS hl.1 (by have z := a_X11_placeAt (l := l) FU (xs (nI j + 1).toNatClampNeg) (xs (nI j + 2).toNatClampNeg) C; rw [e1] at z; exact z) ll_218 rfl rfl (by decide) (Nat.le_of_ble_eq_true rfl) rfl dL_law_1781 (fun H locs hPC hS hoth => ?_)
  have hPM := xother hPM (fun q h z => hdis q z h) hoth
  refine lv_aload_n hx hb dL_law_1784 rfl (lv_at hl 2 rfl) ?_
  refine lv_aload_n hx hb dL_law_1785 rfl (lv_at hl 0 rfl) ?_
  refine lv_iload_n hx hb dL_law_1786 rfl (lv_at hl 3 rfl) ?_
  refine lv_iconst (v := (1 : Int32)) hx hb dL_law_1787 (by decide) ?_
  refine lv_iadd hx hb dL_law_1788 ?_
  refine va_sld hx hb hX hbl hbA hS (i := nI j + 1) h1 dL_law_1789 ?_
  refine lv_aload_n hx hb dL_law_1790 rfl (lv_at hl 0 rfl) ?_
  refine lv_iload_n hx hb dL_law_1791 rfl (lv_at hl 3 rfl) ?_
  refine lv_iconst (v := (2 : Int32)) hx hb dL_law_1792 (by decide) ?_
  refine lv_iadd hx hb dL_law_1793 ?_
  refine va_sld hx hb hX hbl hbA hS (i := nI j + 2) h2 dL_law_1794 ?_
  refine lcall (S := SM) (ad := aM) (N := R) (N' := R') (v := v) (q := 0) (as := [xi (xs (nI j + 1).toNatClampNeg), xi (xs (nI j + 2).toNatClampNeg)]) hCF hK hapM hrM hZM hPM hS hl.1 (by have z := a_X12_placeAt (l := l) FU (xs (nI j + 1).toNatClampNeg) (xs (nI j + 2).toNatClampNeg) R; rw [e2] at z; exact z) ll_221 rfl rfl (by decide) (Nat.le_of_ble_eq_true rfl) rfl dL_law_1795 (fun H locs hPM hS hoth => ?_)
  have hPC := xother hPC (fun q h => hdis q h) hoth
  refine lv_icmp_eq (tgt := 2044) hx hb dL_law_1798 (by decide) (fun _ => ?_) (fun h => absurd rfl h)
  exact kk C' R' H locs hrel' ⟨hPC, hPM, hS⟩
set_option maxHeartbeats 4000000 in
set_option maxRecDepth 100000 in
theorem law_op47 {p : Program} {l : Launch} {e : Env} {s : State} {m : MethodId} {below : List Frame} {meth : Method} {c : Code} {b Lb : Nat} {xs : Nat → Int32} {D : va_G} {cA : Nat → ClassId} {aC aM : Nat → Nat} {Q : State → Prop} {Rel : xM → xM → Prop} (hop : Op47 Rel) (hLaw : xLaw p s m meth c b Lb xs D cA aC aM) (hX : va_X b Lb xs s s.heap) (hbl : b < s.heap.size) {j : Nat} (h1 : vp_in (nI j + 1) Lb) (h2 : vp_in (nI j + 2) Lb) (h3 : vp_in (nI j + 3) Lb) (h4 : vp_in (nI j + 4) Lb) (h5 : vp_in (nI j + 5) Lb)
    {C R : xM} (hrel : Rel C R) {H : Heap} {locs : List Loc} (hB : xBoth s D cA aC aM C R H locs) {ls : Array Slot} (hl : lv_has ls 4 (xLoc aC aM b j))
    (kk : ∀ (C R : xM) (H : Heap) (locs : List Loc), Rel C R → xBoth s D cA aC aM C R H locs → W p l e room_1 s m #[Value.ref b] below meth c H locs 600000 7302250 Q (F0 m 2044 ls [])) : W p l e room_1 s m #[Value.ref b] below meth c H locs 600000 7302250 Q (F0 m 1803 ls []) := by
  obtain ⟨hCF, hK, hapC, hapM, hdis, hrC, hrM, hZC, hZM⟩ := hLaw
  obtain ⟨hPC, hPM, hS⟩ := hB
  obtain ⟨hx, hb, hml, hown, hts⟩ := id hCF
  have hbA : ¬ (fun q => s.heap.size ≤ q) b := Nat.not_le.mpr hbl
  obtain ⟨v, C', R', e1, e2, hrel'⟩ := hop C R (xs (nI j + 1).toNatClampNeg) (xs (nI j + 2).toNatClampNeg) (xs (nI j + 3).toNatClampNeg) (xs (nI j + 4).toNatClampNeg) hrel
  refine lv_aload_n hx hb dL_law_1803 rfl (lv_at hl 1 rfl) ?_
  refine lv_aload_n hx hb dL_law_1804 rfl (lv_at hl 0 rfl) ?_
  refine lv_iload_n hx hb dL_law_1805 rfl (lv_at hl 3 rfl) ?_
  refine lv_iconst (v := (1 : Int32)) hx hb dL_law_1806 (by decide) ?_
  refine lv_iadd hx hb dL_law_1807 ?_
  refine va_sld hx hb hX hbl hbA hS (i := nI j + 1) h1 dL_law_1808 ?_
  refine lv_aload_n hx hb dL_law_1809 rfl (lv_at hl 0 rfl) ?_
  refine lv_iload_n hx hb dL_law_1810 rfl (lv_at hl 3 rfl) ?_
  refine lv_iconst (v := (2 : Int32)) hx hb dL_law_1811 (by decide) ?_
  refine lv_iadd hx hb dL_law_1812 ?_
  refine va_sld hx hb hX hbl hbA hS (i := nI j + 2) h2 dL_law_1813 ?_
  refine lv_aload_n hx hb dL_law_1814 rfl (lv_at hl 0 rfl) ?_
  refine lv_iload_n hx hb dL_law_1815 rfl (lv_at hl 3 rfl) ?_
  refine lv_iconst (v := (3 : Int32)) hx hb dL_law_1816 (by decide) ?_
  refine lv_iadd hx hb dL_law_1817 ?_
  refine va_sld hx hb hX hbl hbA hS (i := nI j + 3) h3 dL_law_1818 ?_
  refine lv_aload_n hx hb dL_law_1819 rfl (lv_at hl 0 rfl) ?_
  refine lv_iload_n hx hb dL_law_1820 rfl (lv_at hl 3 rfl) ?_
  refine lv_iconst (v := (4 : Int32)) hx hb dL_law_1821 (by decide) ?_
  refine lv_iadd hx hb dL_law_1822 ?_
  refine va_sld hx hb hX hbl hbA hS (i := nI j + 4) h4 dL_law_1823 ?_
  refine lcall (S := SC) (ad := aC) (N := C) (N' := C') (v := v) (q := 0) (as := [xi (xs (nI j + 1).toNatClampNeg), xi (xs (nI j + 2).toNatClampNeg), xi (xs (nI j + 3).toNatClampNeg), xi (xs (nI j + 4).toNatClampNeg)]) hCF hK hapC hrC hZC hPC hS hl.1 (by have z := a_X11_alone (l := l) FU (xs (nI j + 1).toNatClampNeg) (xs (nI j + 2).toNatClampNeg) (xs (nI j + 3).toNatClampNeg) (xs (nI j + 4).toNatClampNeg) C; rw [e1] at z; exact z) ll_222 rfl rfl (by decide) (Nat.le_of_ble_eq_true rfl) rfl dL_law_1824 (fun H locs hPC hS hoth => ?_)
  have hPM := xother hPM (fun q h z => hdis q z h) hoth
  refine lv_aload_n hx hb dL_law_1827 rfl (lv_at hl 2 rfl) ?_
  refine lv_aload_n hx hb dL_law_1828 rfl (lv_at hl 0 rfl) ?_
  refine lv_iload_n hx hb dL_law_1829 rfl (lv_at hl 3 rfl) ?_
  refine lv_iconst (v := (1 : Int32)) hx hb dL_law_1830 (by decide) ?_
  refine lv_iadd hx hb dL_law_1831 ?_
  refine va_sld hx hb hX hbl hbA hS (i := nI j + 1) h1 dL_law_1832 ?_
  refine lv_aload_n hx hb dL_law_1833 rfl (lv_at hl 0 rfl) ?_
  refine lv_iload_n hx hb dL_law_1834 rfl (lv_at hl 3 rfl) ?_
  refine lv_iconst (v := (2 : Int32)) hx hb dL_law_1835 (by decide) ?_
  refine lv_iadd hx hb dL_law_1836 ?_
  refine va_sld hx hb hX hbl hbA hS (i := nI j + 2) h2 dL_law_1837 ?_
  refine lv_aload_n hx hb dL_law_1838 rfl (lv_at hl 0 rfl) ?_
  refine lv_iload_n hx hb dL_law_1839 rfl (lv_at hl 3 rfl) ?_
  refine lv_iconst (v := (3 : Int32)) hx hb dL_law_1840 (by decide) ?_
  refine lv_iadd hx hb dL_law_1841 ?_
  refine va_sld hx hb hX hbl hbA hS (i := nI j + 3) h3 dL_law_1842 ?_
  refine lv_aload_n hx hb dL_law_1843 rfl (lv_at hl 0 rfl) ?_
  refine lv_iload_n hx hb dL_law_1844 rfl (lv_at hl 3 rfl) ?_
  refine lv_iconst (v := (4 : Int32)) hx hb dL_law_1845 (by decide) ?_
  refine lv_iadd hx hb dL_law_1846 ?_
  refine va_sld hx hb hX hbl hbA hS (i := nI j + 4) h4 dL_law_1847 ?_
  refine lcall (S := SM) (ad := aM) (N := R) (N' := R') (v := v) (q := 0) (as := [xi (xs (nI j + 1).toNatClampNeg), xi (xs (nI j + 2).toNatClampNeg), xi (xs (nI j + 3).toNatClampNeg), xi (xs (nI j + 4).toNatClampNeg)]) hCF hK hapM hrM hZM hPM hS hl.1 (by have z := a_X12_alone (l := l) FU (xs (nI j + 1).toNatClampNeg) (xs (nI j + 2).toNatClampNeg) (xs (nI j + 3).toNatClampNeg) (xs (nI j + 4).toNatClampNeg) R; rw [e2] at z; exact z) ll_225 rfl rfl (by decide) (Nat.le_of_ble_eq_true rfl) rfl dL_law_1848 (fun H locs hPM hS hoth => ?_)
  have hPC := xother hPC (fun q h => hdis q h) hoth
  refine lv_icmp_eq (tgt := 2044) hx hb dL_law_1851 (by decide) (fun _ => ?_) (fun h => absurd rfl h)
  exact kk C' R' H locs hrel' ⟨hPC, hPM, hS⟩
set_option maxHeartbeats 4000000 in
set_option maxRecDepth 100000 in
theorem law_op48 {p : Program} {l : Launch} {e : Env} {s : State} {m : MethodId} {below : List Frame} {meth : Method} {c : Code} {b Lb : Nat} {xs : Nat → Int32} {D : va_G} {cA : Nat → ClassId} {aC aM : Nat → Nat} {Q : State → Prop} {Rel : xM → xM → Prop} (hop : Op48 Rel) (hLaw : xLaw p s m meth c b Lb xs D cA aC aM) (hX : va_X b Lb xs s s.heap) (hbl : b < s.heap.size) {j : Nat} (h1 : vp_in (nI j + 1) Lb) (h2 : vp_in (nI j + 2) Lb) (h3 : vp_in (nI j + 3) Lb) (h4 : vp_in (nI j + 4) Lb) (h5 : vp_in (nI j + 5) Lb)
    {C R : xM} (hrel : Rel C R) {H : Heap} {locs : List Loc} (hB : xBoth s D cA aC aM C R H locs) {ls : Array Slot} (hl : lv_has ls 4 (xLoc aC aM b j))
    (kk : ∀ (C R : xM) (H : Heap) (locs : List Loc), Rel C R → xBoth s D cA aC aM C R H locs → W p l e room_1 s m #[Value.ref b] below meth c H locs 600000 7302250 Q (F0 m 2044 ls [])) : W p l e room_1 s m #[Value.ref b] below meth c H locs 600000 7302250 Q (F0 m 1856 ls []) := by
  obtain ⟨hCF, hK, hapC, hapM, hdis, hrC, hrM, hZC, hZM⟩ := hLaw
  obtain ⟨hPC, hPM, hS⟩ := hB
  obtain ⟨hx, hb, hml, hown, hts⟩ := id hCF
  have hbA : ¬ (fun q => s.heap.size ≤ q) b := Nat.not_le.mpr hbl
  obtain ⟨v, C', R', e1, e2, hrel'⟩ := hop C R (xs (nI j + 1).toNatClampNeg) (xs (nI j + 2).toNatClampNeg) (xs (nI j + 3).toNatClampNeg) hrel
  refine lv_aload_n hx hb dL_law_1856 rfl (lv_at hl 1 rfl) ?_
  refine lv_aload_n hx hb dL_law_1857 rfl (lv_at hl 0 rfl) ?_
  refine lv_iload_n hx hb dL_law_1858 rfl (lv_at hl 3 rfl) ?_
  refine lv_iconst (v := (1 : Int32)) hx hb dL_law_1859 (by decide) ?_
  refine lv_iadd hx hb dL_law_1860 ?_
  refine va_sld hx hb hX hbl hbA hS (i := nI j + 1) h1 dL_law_1861 ?_
  refine lv_aload_n hx hb dL_law_1862 rfl (lv_at hl 0 rfl) ?_
  refine lv_iload_n hx hb dL_law_1863 rfl (lv_at hl 3 rfl) ?_
  refine lv_iconst (v := (2 : Int32)) hx hb dL_law_1864 (by decide) ?_
  refine lv_iadd hx hb dL_law_1865 ?_
  refine va_sld hx hb hX hbl hbA hS (i := nI j + 2) h2 dL_law_1866 ?_
  refine lv_aload_n hx hb dL_law_1867 rfl (lv_at hl 0 rfl) ?_
  refine lv_iload_n hx hb dL_law_1868 rfl (lv_at hl 3 rfl) ?_
  refine lv_iconst (v := (3 : Int32)) hx hb dL_law_1869 (by decide) ?_
  refine lv_iadd hx hb dL_law_1870 ?_
  refine va_sld hx hb hX hbl hbA hS (i := nI j + 3) h3 dL_law_1871 ?_
  refine lcall (S := SC) (ad := aC) (N := C) (N' := C') (v := v) (q := 0) (as := [xi (xs (nI j + 1).toNatClampNeg), xi (xs (nI j + 2).toNatClampNeg), xi (xs (nI j + 3).toNatClampNeg)]) hCF hK hapC hrC hZC hPC hS hl.1 (by have z := a_X11_recount (l := l) (xs (nI j + 1).toNatClampNeg) (xs (nI j + 2).toNatClampNeg) (xs (nI j + 3).toNatClampNeg) C; rw [e1] at z; exact z) ll_226 rfl rfl (by decide) (Nat.le_of_ble_eq_true rfl) rfl dL_law_1872 (fun H locs hPC hS hoth => ?_)
  have hPM := xother hPM (fun q h z => hdis q z h) hoth
  refine lv_aload_n hx hb dL_law_1875 rfl (lv_at hl 2 rfl) ?_
  refine lv_aload_n hx hb dL_law_1876 rfl (lv_at hl 0 rfl) ?_
  refine lv_iload_n hx hb dL_law_1877 rfl (lv_at hl 3 rfl) ?_
  refine lv_iconst (v := (1 : Int32)) hx hb dL_law_1878 (by decide) ?_
  refine lv_iadd hx hb dL_law_1879 ?_
  refine va_sld hx hb hX hbl hbA hS (i := nI j + 1) h1 dL_law_1880 ?_
  refine lv_aload_n hx hb dL_law_1881 rfl (lv_at hl 0 rfl) ?_
  refine lv_iload_n hx hb dL_law_1882 rfl (lv_at hl 3 rfl) ?_
  refine lv_iconst (v := (2 : Int32)) hx hb dL_law_1883 (by decide) ?_
  refine lv_iadd hx hb dL_law_1884 ?_
  refine va_sld hx hb hX hbl hbA hS (i := nI j + 2) h2 dL_law_1885 ?_
  refine lv_aload_n hx hb dL_law_1886 rfl (lv_at hl 0 rfl) ?_
  refine lv_iload_n hx hb dL_law_1887 rfl (lv_at hl 3 rfl) ?_
  refine lv_iconst (v := (3 : Int32)) hx hb dL_law_1888 (by decide) ?_
  refine lv_iadd hx hb dL_law_1889 ?_
  refine va_sld hx hb hX hbl hbA hS (i := nI j + 3) h3 dL_law_1890 ?_
  refine lcall (S := SM) (ad := aM) (N := R) (N' := R') (v := v) (q := 0) (as := [xi (xs (nI j + 1).toNatClampNeg), xi (xs (nI j + 2).toNatClampNeg), xi (xs (nI j + 3).toNatClampNeg)]) hCF hK hapM hrM hZM hPM hS hl.1 (by have z := a_X12_recount (l := l) (xs (nI j + 1).toNatClampNeg) (xs (nI j + 2).toNatClampNeg) (xs (nI j + 3).toNatClampNeg) R; rw [e2] at z; exact z) ll_229 rfl rfl (by decide) (Nat.le_of_ble_eq_true rfl) rfl dL_law_1891 (fun H locs hPM hS hoth => ?_)
  have hPC := xother hPC (fun q h => hdis q h) hoth
  refine lv_icmp_eq (tgt := 2044) hx hb dL_law_1894 (by decide) (fun _ => ?_) (fun h => absurd rfl h)
  exact kk C' R' H locs hrel' ⟨hPC, hPM, hS⟩
set_option maxHeartbeats 4000000 in
set_option maxRecDepth 100000 in
theorem law_op49 {p : Program} {l : Launch} {e : Env} {s : State} {m : MethodId} {below : List Frame} {meth : Method} {c : Code} {b Lb : Nat} {xs : Nat → Int32} {D : va_G} {cA : Nat → ClassId} {aC aM : Nat → Nat} {Q : State → Prop} {Rel : xM → xM → Prop} (hop : Op49 Rel) (hLaw : xLaw p s m meth c b Lb xs D cA aC aM) (hX : va_X b Lb xs s s.heap) (hbl : b < s.heap.size) {j : Nat} (h1 : vp_in (nI j + 1) Lb) (h2 : vp_in (nI j + 2) Lb) (h3 : vp_in (nI j + 3) Lb) (h4 : vp_in (nI j + 4) Lb) (h5 : vp_in (nI j + 5) Lb)
    {C R : xM} (hrel : Rel C R) {H : Heap} {locs : List Loc} (hB : xBoth s D cA aC aM C R H locs) {ls : Array Slot} (hl : lv_has ls 4 (xLoc aC aM b j))
    (kk : ∀ (C R : xM) (H : Heap) (locs : List Loc), Rel C R → xBoth s D cA aC aM C R H locs → W p l e room_1 s m #[Value.ref b] below meth c H locs 600000 7302250 Q (F0 m 2044 ls [])) : W p l e room_1 s m #[Value.ref b] below meth c H locs 600000 7302250 Q (F0 m 1899 ls []) := by
  obtain ⟨hCF, hK, hapC, hapM, hdis, hrC, hrM, hZC, hZM⟩ := hLaw
  obtain ⟨hPC, hPM, hS⟩ := hB
  obtain ⟨hx, hb, hml, hown, hts⟩ := id hCF
  have hbA : ¬ (fun q => s.heap.size ≤ q) b := Nat.not_le.mpr hbl
  obtain ⟨v, C', R', e1, e2, hrel'⟩ := hop C R (xs (nI j + 1).toNatClampNeg) (xs (nI j + 2).toNatClampNeg) (xs (nI j + 3).toNatClampNeg) hrel
  refine lv_aload_n hx hb dL_law_1899 rfl (lv_at hl 1 rfl) ?_
  refine lv_aload_n hx hb dL_law_1900 rfl (lv_at hl 0 rfl) ?_
  refine lv_iload_n hx hb dL_law_1901 rfl (lv_at hl 3 rfl) ?_
  refine lv_iconst (v := (1 : Int32)) hx hb dL_law_1902 (by decide) ?_
  refine lv_iadd hx hb dL_law_1903 ?_
  refine va_sld hx hb hX hbl hbA hS (i := nI j + 1) h1 dL_law_1904 ?_
  refine lv_aload_n hx hb dL_law_1905 rfl (lv_at hl 0 rfl) ?_
  refine lv_iload_n hx hb dL_law_1906 rfl (lv_at hl 3 rfl) ?_
  refine lv_iconst (v := (2 : Int32)) hx hb dL_law_1907 (by decide) ?_
  refine lv_iadd hx hb dL_law_1908 ?_
  refine va_sld hx hb hX hbl hbA hS (i := nI j + 2) h2 dL_law_1909 ?_
  refine lv_aload_n hx hb dL_law_1910 rfl (lv_at hl 0 rfl) ?_
  refine lv_iload_n hx hb dL_law_1911 rfl (lv_at hl 3 rfl) ?_
  refine lv_iconst (v := (3 : Int32)) hx hb dL_law_1912 (by decide) ?_
  refine lv_iadd hx hb dL_law_1913 ?_
  refine va_sld hx hb hX hbl hbA hS (i := nI j + 3) h3 dL_law_1914 ?_
  refine lcall (S := SC) (ad := aC) (N := C) (N' := C') (v := v) (q := 0) (as := [xi (xs (nI j + 1).toNatClampNeg), xi (xs (nI j + 2).toNatClampNeg), xi (xs (nI j + 3).toNatClampNeg)]) hCF hK hapC hrC hZC hPC hS hl.1 (by have z := a_X11_kept (l := l) (xs (nI j + 1).toNatClampNeg) (xs (nI j + 2).toNatClampNeg) (xs (nI j + 3).toNatClampNeg) C; rw [e1] at z; exact z) ll_230 rfl rfl (by decide) (Nat.le_of_ble_eq_true rfl) rfl dL_law_1915 (fun H locs hPC hS hoth => ?_)
  have hPM := xother hPM (fun q h z => hdis q z h) hoth
  refine lv_aload_n hx hb dL_law_1918 rfl (lv_at hl 2 rfl) ?_
  refine lv_aload_n hx hb dL_law_1919 rfl (lv_at hl 0 rfl) ?_
  refine lv_iload_n hx hb dL_law_1920 rfl (lv_at hl 3 rfl) ?_
  refine lv_iconst (v := (1 : Int32)) hx hb dL_law_1921 (by decide) ?_
  refine lv_iadd hx hb dL_law_1922 ?_
  refine va_sld hx hb hX hbl hbA hS (i := nI j + 1) h1 dL_law_1923 ?_
  refine lv_aload_n hx hb dL_law_1924 rfl (lv_at hl 0 rfl) ?_
  refine lv_iload_n hx hb dL_law_1925 rfl (lv_at hl 3 rfl) ?_
  refine lv_iconst (v := (2 : Int32)) hx hb dL_law_1926 (by decide) ?_
  refine lv_iadd hx hb dL_law_1927 ?_
  refine va_sld hx hb hX hbl hbA hS (i := nI j + 2) h2 dL_law_1928 ?_
  refine lv_aload_n hx hb dL_law_1929 rfl (lv_at hl 0 rfl) ?_
  refine lv_iload_n hx hb dL_law_1930 rfl (lv_at hl 3 rfl) ?_
  refine lv_iconst (v := (3 : Int32)) hx hb dL_law_1931 (by decide) ?_
  refine lv_iadd hx hb dL_law_1932 ?_
  refine va_sld hx hb hX hbl hbA hS (i := nI j + 3) h3 dL_law_1933 ?_
  refine lcall (S := SM) (ad := aM) (N := R) (N' := R') (v := v) (q := 0) (as := [xi (xs (nI j + 1).toNatClampNeg), xi (xs (nI j + 2).toNatClampNeg), xi (xs (nI j + 3).toNatClampNeg)]) hCF hK hapM hrM hZM hPM hS hl.1 (by have z := a_X12_kept (l := l) (xs (nI j + 1).toNatClampNeg) (xs (nI j + 2).toNatClampNeg) (xs (nI j + 3).toNatClampNeg) R; rw [e2] at z; exact z) ll_233 rfl rfl (by decide) (Nat.le_of_ble_eq_true rfl) rfl dL_law_1934 (fun H locs hPM hS hoth => ?_)
  have hPC := xother hPC (fun q h => hdis q h) hoth
  refine lv_icmp_eq (tgt := 2044) hx hb dL_law_1937 (by decide) (fun _ => ?_) (fun h => absurd rfl h)
  exact kk C' R' H locs hrel' ⟨hPC, hPM, hS⟩
set_option maxHeartbeats 4000000 in
set_option maxRecDepth 100000 in
theorem law_op50 {p : Program} {l : Launch} {e : Env} {s : State} {m : MethodId} {below : List Frame} {meth : Method} {c : Code} {b Lb : Nat} {xs : Nat → Int32} {D : va_G} {cA : Nat → ClassId} {aC aM : Nat → Nat} {Q : State → Prop} {Rel : xM → xM → Prop} (hop : Op50 Rel) (hLaw : xLaw p s m meth c b Lb xs D cA aC aM) (hX : va_X b Lb xs s s.heap) (hbl : b < s.heap.size) {j : Nat} (h1 : vp_in (nI j + 1) Lb) (h2 : vp_in (nI j + 2) Lb) (h3 : vp_in (nI j + 3) Lb) (h4 : vp_in (nI j + 4) Lb) (h5 : vp_in (nI j + 5) Lb)
    {C R : xM} (hrel : Rel C R) {H : Heap} {locs : List Loc} (hB : xBoth s D cA aC aM C R H locs) {ls : Array Slot} (hl : lv_has ls 4 (xLoc aC aM b j))
    (kk : ∀ (C R : xM) (H : Heap) (locs : List Loc), Rel C R → xBoth s D cA aC aM C R H locs → W p l e room_1 s m #[Value.ref b] below meth c H locs 600000 7302250 Q (F0 m 2044 ls [])) : W p l e room_1 s m #[Value.ref b] below meth c H locs 600000 7302250 Q (F0 m 1942 ls []) := by
  obtain ⟨hCF, hK, hapC, hapM, hdis, hrC, hrM, hZC, hZM⟩ := hLaw
  obtain ⟨hPC, hPM, hS⟩ := hB
  obtain ⟨hx, hb, hml, hown, hts⟩ := id hCF
  have hbA : ¬ (fun q => s.heap.size ≤ q) b := Nat.not_le.mpr hbl
  obtain ⟨v, C', R', e1, e2, hrel'⟩ := hop C R (xs (nI j + 1).toNatClampNeg) (xs (nI j + 2).toNatClampNeg) hrel
  refine lv_aload_n hx hb dL_law_1942 rfl (lv_at hl 1 rfl) ?_
  refine lv_aload_n hx hb dL_law_1943 rfl (lv_at hl 0 rfl) ?_
  refine lv_iload_n hx hb dL_law_1944 rfl (lv_at hl 3 rfl) ?_
  refine lv_iconst (v := (1 : Int32)) hx hb dL_law_1945 (by decide) ?_
  refine lv_iadd hx hb dL_law_1946 ?_
  refine va_sld hx hb hX hbl hbA hS (i := nI j + 1) h1 dL_law_1947 ?_
  refine lv_aload_n hx hb dL_law_1948 rfl (lv_at hl 0 rfl) ?_
  refine lv_iload_n hx hb dL_law_1949 rfl (lv_at hl 3 rfl) ?_
  refine lv_iconst (v := (2 : Int32)) hx hb dL_law_1950 (by decide) ?_
  refine lv_iadd hx hb dL_law_1951 ?_
  refine va_sld hx hb hX hbl hbA hS (i := nI j + 2) h2 dL_law_1952 ?_
  refine lcall (S := SC) (ad := aC) (N := C) (N' := C') (v := v) (q := 0) (as := [xi (xs (nI j + 1).toNatClampNeg), xi (xs (nI j + 2).toNatClampNeg)]) hCF hK hapC hrC hZC hPC hS hl.1 (by have z := a_X11_changed (l := l) FU (xs (nI j + 1).toNatClampNeg) (xs (nI j + 2).toNatClampNeg) C; rw [e1] at z; exact z) ll_234 rfl rfl (by decide) (Nat.le_of_ble_eq_true rfl) rfl dL_law_1953 (fun H locs hPC hS hoth => ?_)
  have hPM := xother hPM (fun q h z => hdis q z h) hoth
  refine lv_aload_n hx hb dL_law_1956 rfl (lv_at hl 2 rfl) ?_
  refine lv_aload_n hx hb dL_law_1957 rfl (lv_at hl 0 rfl) ?_
  refine lv_iload_n hx hb dL_law_1958 rfl (lv_at hl 3 rfl) ?_
  refine lv_iconst (v := (1 : Int32)) hx hb dL_law_1959 (by decide) ?_
  refine lv_iadd hx hb dL_law_1960 ?_
  refine va_sld hx hb hX hbl hbA hS (i := nI j + 1) h1 dL_law_1961 ?_
  refine lv_aload_n hx hb dL_law_1962 rfl (lv_at hl 0 rfl) ?_
  refine lv_iload_n hx hb dL_law_1963 rfl (lv_at hl 3 rfl) ?_
  refine lv_iconst (v := (2 : Int32)) hx hb dL_law_1964 (by decide) ?_
  refine lv_iadd hx hb dL_law_1965 ?_
  refine va_sld hx hb hX hbl hbA hS (i := nI j + 2) h2 dL_law_1966 ?_
  refine lcall (S := SM) (ad := aM) (N := R) (N' := R') (v := v) (q := 0) (as := [xi (xs (nI j + 1).toNatClampNeg), xi (xs (nI j + 2).toNatClampNeg)]) hCF hK hapM hrM hZM hPM hS hl.1 (by have z := a_X12_changed (l := l) FU (xs (nI j + 1).toNatClampNeg) (xs (nI j + 2).toNatClampNeg) R; rw [e2] at z; exact z) ll_237 rfl rfl (by decide) (Nat.le_of_ble_eq_true rfl) rfl dL_law_1967 (fun H locs hPM hS hoth => ?_)
  have hPC := xother hPC (fun q h => hdis q h) hoth
  refine lv_icmp_eq (tgt := 2044) hx hb dL_law_1970 (by decide) (fun _ => ?_) (fun h => absurd rfl h)
  exact kk C' R' H locs hrel' ⟨hPC, hPM, hS⟩
set_option maxHeartbeats 4000000 in
set_option maxRecDepth 100000 in
theorem law_op51 {p : Program} {l : Launch} {e : Env} {s : State} {m : MethodId} {below : List Frame} {meth : Method} {c : Code} {b Lb : Nat} {xs : Nat → Int32} {D : va_G} {cA : Nat → ClassId} {aC aM : Nat → Nat} {Q : State → Prop} {Rel : xM → xM → Prop} (hop : Op51 Rel) (hLaw : xLaw p s m meth c b Lb xs D cA aC aM) (hX : va_X b Lb xs s s.heap) (hbl : b < s.heap.size) {j : Nat} (h1 : vp_in (nI j + 1) Lb) (h2 : vp_in (nI j + 2) Lb) (h3 : vp_in (nI j + 3) Lb) (h4 : vp_in (nI j + 4) Lb) (h5 : vp_in (nI j + 5) Lb)
    {C R : xM} (hrel : Rel C R) {H : Heap} {locs : List Loc} (hB : xBoth s D cA aC aM C R H locs) {ls : Array Slot} (hl : lv_has ls 4 (xLoc aC aM b j))
    (kk : ∀ (C R : xM) (H : Heap) (locs : List Loc), Rel C R → xBoth s D cA aC aM C R H locs → W p l e room_1 s m #[Value.ref b] below meth c H locs 600000 7302250 Q (F0 m 2044 ls [])) : W p l e room_1 s m #[Value.ref b] below meth c H locs 600000 7302250 Q (F0 m 1975 ls []) := by
  obtain ⟨hCF, hK, hapC, hapM, hdis, hrC, hrM, hZC, hZM⟩ := hLaw
  obtain ⟨hPC, hPM, hS⟩ := hB
  obtain ⟨hx, hb, hml, hown, hts⟩ := id hCF
  have hbA : ¬ (fun q => s.heap.size ≤ q) b := Nat.not_le.mpr hbl
  obtain ⟨v, C', R', e1, e2, hrel'⟩ := hop C R (xs (nI j + 1).toNatClampNeg) hrel
  refine lv_aload_n hx hb dL_law_1975 rfl (lv_at hl 1 rfl) ?_
  refine lv_aload_n hx hb dL_law_1976 rfl (lv_at hl 0 rfl) ?_
  refine lv_iload_n hx hb dL_law_1977 rfl (lv_at hl 3 rfl) ?_
  refine lv_iconst (v := (1 : Int32)) hx hb dL_law_1978 (by decide) ?_
  refine lv_iadd hx hb dL_law_1979 ?_
  refine va_sld hx hb hX hbl hbA hS (i := nI j + 1) h1 dL_law_1980 ?_
  refine lcall (S := SC) (ad := aC) (N := C) (N' := C') (v := v) (q := 0) (as := [xi (xs (nI j + 1).toNatClampNeg)]) hCF hK hapC hrC hZC hPC hS hl.1 (by have z := a_X11_differs (l := l) FU (xs (nI j + 1).toNatClampNeg) C; rw [e1] at z; exact z) ll_238 rfl rfl (by decide) (Nat.le_of_ble_eq_true rfl) rfl dL_law_1981 (fun H locs hPC hS hoth => ?_)
  have hPM := xother hPM (fun q h z => hdis q z h) hoth
  refine lv_aload_n hx hb dL_law_1984 rfl (lv_at hl 2 rfl) ?_
  refine lv_aload_n hx hb dL_law_1985 rfl (lv_at hl 0 rfl) ?_
  refine lv_iload_n hx hb dL_law_1986 rfl (lv_at hl 3 rfl) ?_
  refine lv_iconst (v := (1 : Int32)) hx hb dL_law_1987 (by decide) ?_
  refine lv_iadd hx hb dL_law_1988 ?_
  refine va_sld hx hb hX hbl hbA hS (i := nI j + 1) h1 dL_law_1989 ?_
  refine lcall (S := SM) (ad := aM) (N := R) (N' := R') (v := v) (q := 0) (as := [xi (xs (nI j + 1).toNatClampNeg)]) hCF hK hapM hrM hZM hPM hS hl.1 (by have z := a_X12_differs (l := l) FU (xs (nI j + 1).toNatClampNeg) R; rw [e2] at z; exact z) ll_241 rfl rfl (by decide) (Nat.le_of_ble_eq_true rfl) rfl dL_law_1990 (fun H locs hPM hS hoth => ?_)
  have hPC := xother hPC (fun q h => hdis q h) hoth
  refine lv_icmp_eq (tgt := 2044) hx hb dL_law_1993 (by decide) (fun _ => ?_) (fun h => absurd rfl h)
  exact kk C' R' H locs hrel' ⟨hPC, hPM, hS⟩
set_option maxHeartbeats 4000000 in
set_option maxRecDepth 100000 in
theorem law_op52 {p : Program} {l : Launch} {e : Env} {s : State} {m : MethodId} {below : List Frame} {meth : Method} {c : Code} {b Lb : Nat} {xs : Nat → Int32} {D : va_G} {cA : Nat → ClassId} {aC aM : Nat → Nat} {Q : State → Prop} {Rel : xM → xM → Prop} (hop : Op52 Rel) (hLaw : xLaw p s m meth c b Lb xs D cA aC aM) (hX : va_X b Lb xs s s.heap) (hbl : b < s.heap.size) {j : Nat} (h1 : vp_in (nI j + 1) Lb) (h2 : vp_in (nI j + 2) Lb) (h3 : vp_in (nI j + 3) Lb) (h4 : vp_in (nI j + 4) Lb) (h5 : vp_in (nI j + 5) Lb)
    {C R : xM} (hrel : Rel C R) {H : Heap} {locs : List Loc} (hB : xBoth s D cA aC aM C R H locs) {ls : Array Slot} (hl : lv_has ls 4 (xLoc aC aM b j))
    (kk : ∀ (C R : xM) (H : Heap) (locs : List Loc), Rel C R → xBoth s D cA aC aM C R H locs → W p l e room_1 s m #[Value.ref b] below meth c H locs 600000 7302250 Q (F0 m 2044 ls [])) : W p l e room_1 s m #[Value.ref b] below meth c H locs 600000 7302250 Q (F0 m 1998 ls []) := by
  obtain ⟨hCF, hK, hapC, hapM, hdis, hrC, hrM, hZC, hZM⟩ := hLaw
  obtain ⟨hPC, hPM, hS⟩ := hB
  obtain ⟨hx, hb, hml, hown, hts⟩ := id hCF
  have hbA : ¬ (fun q => s.heap.size ≤ q) b := Nat.not_le.mpr hbl
  obtain ⟨v, C', R', e1, e2, hrel'⟩ := hop C R (xs (nI j + 1).toNatClampNeg) hrel
  refine lv_aload_n hx hb dL_law_1998 rfl (lv_at hl 1 rfl) ?_
  refine lv_aload_n hx hb dL_law_1999 rfl (lv_at hl 0 rfl) ?_
  refine lv_iload_n hx hb dL_law_2000 rfl (lv_at hl 3 rfl) ?_
  refine lv_iconst (v := (1 : Int32)) hx hb dL_law_2001 (by decide) ?_
  refine lv_iadd hx hb dL_law_2002 ?_
  refine va_sld hx hb hX hbl hbA hS (i := nI j + 1) h1 dL_law_2003 ?_
  refine lcall (S := SC) (ad := aC) (N := C) (N' := C') (v := v) (q := 0) (as := [xi (xs (nI j + 1).toNatClampNeg)]) hCF hK hapC hrC hZC hPC hS hl.1 (by have z := a_X11_take (l := l) FU (xs (nI j + 1).toNatClampNeg) C; rw [e1] at z; exact z) ll_242 rfl rfl (by decide) (Nat.le_of_ble_eq_true rfl) rfl dL_law_2004 (fun H locs hPC hS hoth => ?_)
  have hPM := xother hPM (fun q h z => hdis q z h) hoth
  refine lv_aload_n hx hb dL_law_2007 rfl (lv_at hl 2 rfl) ?_
  refine lv_aload_n hx hb dL_law_2008 rfl (lv_at hl 0 rfl) ?_
  refine lv_iload_n hx hb dL_law_2009 rfl (lv_at hl 3 rfl) ?_
  refine lv_iconst (v := (1 : Int32)) hx hb dL_law_2010 (by decide) ?_
  refine lv_iadd hx hb dL_law_2011 ?_
  refine va_sld hx hb hX hbl hbA hS (i := nI j + 1) h1 dL_law_2012 ?_
  refine lcall (S := SM) (ad := aM) (N := R) (N' := R') (v := v) (q := 0) (as := [xi (xs (nI j + 1).toNatClampNeg)]) hCF hK hapM hrM hZM hPM hS hl.1 (by have z := a_X12_take (l := l) FU (xs (nI j + 1).toNatClampNeg) R; rw [e2] at z; exact z) ll_245 rfl rfl (by decide) (Nat.le_of_ble_eq_true rfl) rfl dL_law_2013 (fun H locs hPM hS hoth => ?_)
  have hPC := xother hPC (fun q h => hdis q h) hoth
  refine lv_icmp_eq (tgt := 2044) hx hb dL_law_2016 (by decide) (fun _ => ?_) (fun h => absurd rfl h)
  exact kk C' R' H locs hrel' ⟨hPC, hPM, hS⟩
set_option maxHeartbeats 4000000 in
set_option maxRecDepth 100000 in
theorem law_op53 {p : Program} {l : Launch} {e : Env} {s : State} {m : MethodId} {below : List Frame} {meth : Method} {c : Code} {b Lb : Nat} {xs : Nat → Int32} {D : va_G} {cA : Nat → ClassId} {aC aM : Nat → Nat} {Q : State → Prop} {Rel : xM → xM → Prop} (hop : Op53 Rel) (hLaw : xLaw p s m meth c b Lb xs D cA aC aM) (hX : va_X b Lb xs s s.heap) (hbl : b < s.heap.size) {j : Nat} (h1 : vp_in (nI j + 1) Lb) (h2 : vp_in (nI j + 2) Lb) (h3 : vp_in (nI j + 3) Lb) (h4 : vp_in (nI j + 4) Lb) (h5 : vp_in (nI j + 5) Lb)
    {C R : xM} (hrel : Rel C R) {H : Heap} {locs : List Loc} (hB : xBoth s D cA aC aM C R H locs) {ls : Array Slot} (hl : lv_has ls 4 (xLoc aC aM b j))
    (kk : ∀ (C R : xM) (H : Heap) (locs : List Loc), Rel C R → xBoth s D cA aC aM C R H locs → W p l e room_1 s m #[Value.ref b] below meth c H locs 600000 7302250 Q (F0 m 2044 ls [])) : W p l e room_1 s m #[Value.ref b] below meth c H locs 600000 7302250 Q (F0 m 2021 ls []) := by
  obtain ⟨hCF, hK, hapC, hapM, hdis, hrC, hrM, hZC, hZM⟩ := hLaw
  obtain ⟨hPC, hPM, hS⟩ := hB
  obtain ⟨hx, hb, hml, hown, hts⟩ := id hCF
  have hbA : ¬ (fun q => s.heap.size ≤ q) b := Nat.not_le.mpr hbl
  obtain ⟨v, C', R', e1, e2, hrel'⟩ := hop C R (xs (nI j + 1).toNatClampNeg) hrel
  refine lv_aload_n hx hb dL_law_2021 rfl (lv_at hl 1 rfl) ?_
  refine lv_aload_n hx hb dL_law_2022 rfl (lv_at hl 0 rfl) ?_
  refine lv_iload_n hx hb dL_law_2023 rfl (lv_at hl 3 rfl) ?_
  refine lv_iconst (v := (1 : Int32)) hx hb dL_law_2024 (by decide) ?_
  refine lv_iadd hx hb dL_law_2025 ?_
  refine va_sld hx hb hX hbl hbA hS (i := nI j + 1) h1 dL_law_2026 ?_
  refine lcall (S := SC) (ad := aC) (N := C) (N' := C') (v := v) (q := 0) (as := [xi (xs (nI j + 1).toNatClampNeg)]) hCF hK hapC hrC hZC hPC hS hl.1 (by have z := a_X11_count (l := l) (xs (nI j + 1).toNatClampNeg) C; rw [e1] at z; exact z) ll_246 rfl rfl (by decide) (Nat.le_of_ble_eq_true rfl) rfl dL_law_2027 (fun H locs hPC hS hoth => ?_)
  have hPM := xother hPM (fun q h z => hdis q z h) hoth
  refine lv_aload_n hx hb dL_law_2030 rfl (lv_at hl 2 rfl) ?_
  refine lv_aload_n hx hb dL_law_2031 rfl (lv_at hl 0 rfl) ?_
  refine lv_iload_n hx hb dL_law_2032 rfl (lv_at hl 3 rfl) ?_
  refine lv_iconst (v := (1 : Int32)) hx hb dL_law_2033 (by decide) ?_
  refine lv_iadd hx hb dL_law_2034 ?_
  refine va_sld hx hb hX hbl hbA hS (i := nI j + 1) h1 dL_law_2035 ?_
  refine lcall (S := SM) (ad := aM) (N := R) (N' := R') (v := v) (q := 0) (as := [xi (xs (nI j + 1).toNatClampNeg)]) hCF hK hapM hrM hZM hPM hS hl.1 (by have z := a_X12_count (l := l) (xs (nI j + 1).toNatClampNeg) R; rw [e2] at z; exact z) ll_249 rfl rfl (by decide) (Nat.le_of_ble_eq_true rfl) rfl dL_law_2036 (fun H locs hPM hS hoth => ?_)
  have hPC := xother hPC (fun q h => hdis q h) hoth
  refine lv_icmp_eq (tgt := 2044) hx hb dL_law_2039 (by decide) (fun _ => ?_) (fun h => absurd rfl h)
  exact kk C' R' H locs hrel' ⟨hPC, hPM, hS⟩
