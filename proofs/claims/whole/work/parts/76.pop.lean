/-- how many of the first n bits -/
def pc (a : Nat) : Nat → Nat
  | 0 => 0
  | n + 1 => pc a n + (if a.testBit n = true then 1 else 0)
def nb1' (a : Nat) : Nat := a - ((a >>> 1) &&& 1431655765)
def nb2' (a : Nat) : Nat := (a &&& 858993459) + ((a >>> 2) &&& 858993459)
def nb3' (a : Nat) : Nat := (a + (a >>> 4)) &&& 252645135
def nb4' (a : Nat) : Nat := a + (a >>> 8)
def nb5' (a : Nat) : Nat := (a + (a >>> 16)) &&& 63
section POP
theorem ush_nI {a : Nat} (ha : a < 2 ^ 31) (s : Int32) (k : Nat) (hk : ((s.toUInt32 &&& Int32.toUInt32 31) % 32).toBitVec.toNat = k) : ((nI a).toUInt32 >>> (s.toUInt32 &&& Int32.toUInt32 31)).toInt32 = nI (a >>> k) := by
  apply Int32.toBitVec_inj.mp
  apply BitVec.eq_of_toNat_eq
  show ((BitVec.ofNat 32 a) >>> ((s.toUInt32 &&& Int32.toUInt32 31) % 32).toBitVec).toNat = (BitVec.ofNat 32 (a >>> k)).toNat
  have hle : a >>> k ≤ a := by
    rw [Nat.shiftRight_eq_div_pow]
    exact Nat.div_le_self _ _
  rw [BitVec.ushiftRight_eq', BitVec.toNat_ushiftRight, hk, BitVec.toNat_ofNat, BitVec.toNat_ofNat, Nat.mod_eq_of_lt (show a < 2 ^ 32 by omega), Nat.mod_eq_of_lt (show a >>> k < 2 ^ 32 by omega)]
theorem popN {a : Nat} (ha : a < 65536) (M : xM) : P_J6_bitCount_0f7a4 (nI a) M = nI (nb5' (nb4' (nb3' (nb2' (nb1' a))))) := by
  have sh : ∀ x k : Nat, x >>> k ≤ x := fun x k => by
    rw [Nat.shiftRight_eq_div_pow]
    exact Nat.div_le_self _ _
  have al : ∀ x y : Nat, x &&& y ≤ x := fun x y => Nat.and_le_left
  have u1 := fun {x : Nat} (h : x < 2 ^ 31) => ush_nI h 1 1 (by decide)
  have u2 := fun {x : Nat} (h : x < 2 ^ 31) => ush_nI h 2 2 (by decide)
  have u4 := fun {x : Nat} (h : x < 2 ^ 31) => ush_nI h 4 4 (by decide)
  have u8 := fun {x : Nat} (h : x < 2 ^ 31) => ush_nI h 8 8 (by decide)
  have u16 := fun {x : Nat} (h : x < 2 ^ 31) => ush_nI h 16 16 (by decide)
  have b1 : nb1' a ≤ a := Nat.sub_le _ _
  have b2 : nb2' (nb1' a) ≤ 131072 := by
    have h1 := al (nb1' a) 858993459
    have h2 := al (nb1' a >>> 2) 858993459
    have h3 := sh (nb1' a) 2
    unfold nb2'
    omega
  have b3 : nb3' (nb2' (nb1' a)) ≤ 262144 := by
    have h1 := al (nb2' (nb1' a) + nb2' (nb1' a) >>> 4) 252645135
    have h3 := sh (nb2' (nb1' a)) 4
    unfold nb3'
    omega
  have b4 : nb4' (nb3' (nb2' (nb1' a))) ≤ 524288 := by
    have h3 := sh (nb3' (nb2' (nb1' a))) 8
    unfold nb4'
    omega
  have e1 : nI a - (((nI a).toUInt32 >>> ((1 : Int32).toUInt32 &&& Int32.toUInt32 31)).toInt32 &&& 1431655765) = nI (nb1' a) := by
    rw [u1 (by omega), show (1431655765 : Int32) = nI 1431655765 from rfl, and_nI, pk_sub (Nat.le_trans (al _ _) (sh _ _))]
    rfl
  have e2 : (nI (nb1' a) &&& 858993459) + (((nI (nb1' a)).toUInt32 >>> ((2 : Int32).toUInt32 &&& Int32.toUInt32 31)).toInt32 &&& 858993459) = nI (nb2' (nb1' a)) := by
    rw [u2 (by omega), show (858993459 : Int32) = nI 858993459 from rfl, and_nI, and_nI, nI_add]
    rfl
  have e3 : (nI (nb2' (nb1' a)) + ((nI (nb2' (nb1' a))).toUInt32 >>> ((4 : Int32).toUInt32 &&& Int32.toUInt32 31)).toInt32) &&& 252645135 = nI (nb3' (nb2' (nb1' a))) := by
    rw [u4 (by omega), show (252645135 : Int32) = nI 252645135 from rfl, nI_add, and_nI]
    rfl
  have e4 : nI (nb3' (nb2' (nb1' a))) + ((nI (nb3' (nb2' (nb1' a)))).toUInt32 >>> ((8 : Int32).toUInt32 &&& Int32.toUInt32 31)).toInt32 = nI (nb4' (nb3' (nb2' (nb1' a)))) := by
    rw [u8 (by omega), nI_add]
    rfl
  have e5 : (nI (nb4' (nb3' (nb2' (nb1' a)))) + ((nI (nb4' (nb3' (nb2' (nb1' a))))).toUInt32 >>> ((16 : Int32).toUInt32 &&& Int32.toUInt32 31)).toInt32) &&& 63 = nI (nb5' (nb4' (nb3' (nb2' (nb1' a))))) := by
    rw [u16 (by omega), show (63 : Int32) = nI 63 from rfl, nI_add, and_nI]
    rfl
  unfold P_J6_bitCount_0f7a4
  rw [e1, e2, e3, e4, e5]
theorem popT0 : ∀ h, h < 16 → ∀ l, l < 256 → nb5' (nb4' (nb3' (nb2' (nb1' ((0 + h) * 256 + l))))) = pc ((0 + h) * 256 + l) 16 := by decide +kernel
theorem popT1 : ∀ h, h < 16 → ∀ l, l < 256 → nb5' (nb4' (nb3' (nb2' (nb1' ((16 + h) * 256 + l))))) = pc ((16 + h) * 256 + l) 16 := by decide +kernel
theorem popT2 : ∀ h, h < 16 → ∀ l, l < 256 → nb5' (nb4' (nb3' (nb2' (nb1' ((32 + h) * 256 + l))))) = pc ((32 + h) * 256 + l) 16 := by decide +kernel
theorem popT3 : ∀ h, h < 16 → ∀ l, l < 256 → nb5' (nb4' (nb3' (nb2' (nb1' ((48 + h) * 256 + l))))) = pc ((48 + h) * 256 + l) 16 := by decide +kernel
theorem popT4 : ∀ h, h < 16 → ∀ l, l < 256 → nb5' (nb4' (nb3' (nb2' (nb1' ((64 + h) * 256 + l))))) = pc ((64 + h) * 256 + l) 16 := by decide +kernel
theorem popT5 : ∀ h, h < 16 → ∀ l, l < 256 → nb5' (nb4' (nb3' (nb2' (nb1' ((80 + h) * 256 + l))))) = pc ((80 + h) * 256 + l) 16 := by decide +kernel
theorem popT6 : ∀ h, h < 16 → ∀ l, l < 256 → nb5' (nb4' (nb3' (nb2' (nb1' ((96 + h) * 256 + l))))) = pc ((96 + h) * 256 + l) 16 := by decide +kernel
theorem popT7 : ∀ h, h < 16 → ∀ l, l < 256 → nb5' (nb4' (nb3' (nb2' (nb1' ((112 + h) * 256 + l))))) = pc ((112 + h) * 256 + l) 16 := by decide +kernel
theorem popT8 : ∀ h, h < 16 → ∀ l, l < 256 → nb5' (nb4' (nb3' (nb2' (nb1' ((128 + h) * 256 + l))))) = pc ((128 + h) * 256 + l) 16 := by decide +kernel
theorem popT9 : ∀ h, h < 16 → ∀ l, l < 256 → nb5' (nb4' (nb3' (nb2' (nb1' ((144 + h) * 256 + l))))) = pc ((144 + h) * 256 + l) 16 := by decide +kernel
theorem popT10 : ∀ h, h < 16 → ∀ l, l < 256 → nb5' (nb4' (nb3' (nb2' (nb1' ((160 + h) * 256 + l))))) = pc ((160 + h) * 256 + l) 16 := by decide +kernel
theorem popT11 : ∀ h, h < 16 → ∀ l, l < 256 → nb5' (nb4' (nb3' (nb2' (nb1' ((176 + h) * 256 + l))))) = pc ((176 + h) * 256 + l) 16 := by decide +kernel
theorem popT12 : ∀ h, h < 16 → ∀ l, l < 256 → nb5' (nb4' (nb3' (nb2' (nb1' ((192 + h) * 256 + l))))) = pc ((192 + h) * 256 + l) 16 := by decide +kernel
theorem popT13 : ∀ h, h < 16 → ∀ l, l < 256 → nb5' (nb4' (nb3' (nb2' (nb1' ((208 + h) * 256 + l))))) = pc ((208 + h) * 256 + l) 16 := by decide +kernel
theorem popT14 : ∀ h, h < 16 → ∀ l, l < 256 → nb5' (nb4' (nb3' (nb2' (nb1' ((224 + h) * 256 + l))))) = pc ((224 + h) * 256 + l) 16 := by decide +kernel
theorem popT15 : ∀ h, h < 16 → ∀ l, l < 256 → nb5' (nb4' (nb3' (nb2' (nb1' ((240 + h) * 256 + l))))) = pc ((240 + h) * 256 + l) 16 := by decide +kernel
theorem popT (h : Nat) (hh : h < 256) (l : Nat) (hl : l < 256) : nb5' (nb4' (nb3' (nb2' (nb1' (h * 256 + l))))) = pc (h * 256 + l) 16 := by
  by_cases h0 : h < 16
  · have := popT0 (h - 0) (by omega) l hl
    rw [show 0 + (h - 0) = h by omega] at this
    exact this
  by_cases h1 : h < 32
  · have := popT1 (h - 16) (by omega) l hl
    rw [show 16 + (h - 16) = h by omega] at this
    exact this
  by_cases h2 : h < 48
  · have := popT2 (h - 32) (by omega) l hl
    rw [show 32 + (h - 32) = h by omega] at this
    exact this
  by_cases h3 : h < 64
  · have := popT3 (h - 48) (by omega) l hl
    rw [show 48 + (h - 48) = h by omega] at this
    exact this
  by_cases h4 : h < 80
  · have := popT4 (h - 64) (by omega) l hl
    rw [show 64 + (h - 64) = h by omega] at this
    exact this
  by_cases h5 : h < 96
  · have := popT5 (h - 80) (by omega) l hl
    rw [show 80 + (h - 80) = h by omega] at this
    exact this
  by_cases h6 : h < 112
  · have := popT6 (h - 96) (by omega) l hl
    rw [show 96 + (h - 96) = h by omega] at this
    exact this
  by_cases h7 : h < 128
  · have := popT7 (h - 112) (by omega) l hl
    rw [show 112 + (h - 112) = h by omega] at this
    exact this
  by_cases h8 : h < 144
  · have := popT8 (h - 128) (by omega) l hl
    rw [show 128 + (h - 128) = h by omega] at this
    exact this
  by_cases h9 : h < 160
  · have := popT9 (h - 144) (by omega) l hl
    rw [show 144 + (h - 144) = h by omega] at this
    exact this
  by_cases h10 : h < 176
  · have := popT10 (h - 160) (by omega) l hl
    rw [show 160 + (h - 160) = h by omega] at this
    exact this
  by_cases h11 : h < 192
  · have := popT11 (h - 176) (by omega) l hl
    rw [show 176 + (h - 176) = h by omega] at this
    exact this
  by_cases h12 : h < 208
  · have := popT12 (h - 192) (by omega) l hl
    rw [show 192 + (h - 192) = h by omega] at this
    exact this
  by_cases h13 : h < 224
  · have := popT13 (h - 208) (by omega) l hl
    rw [show 208 + (h - 208) = h by omega] at this
    exact this
  by_cases h14 : h < 240
  · have := popT14 (h - 224) (by omega) l hl
    rw [show 224 + (h - 224) = h by omega] at this
    exact this
  by_cases h15 : h < 256
  · have := popT15 (h - 240) (by omega) l hl
    rw [show 240 + (h - 240) = h by omega] at this
    exact this
  omega
theorem bc_pc {a : Nat} (ha : a < 65536) : BC (nI a) = nI (pc a 16) := by
  rw [← bcM (nI a) (fun _ _ => 0), popN ha]
  have := popT (a / 256) (by omega) (a % 256) (by omega)
  rw [show a / 256 * 256 + a % 256 = a by omega] at this
  rw [this]
end POP
