/-! Which PULLS a set leaves, in numbers; the reference's search for the least -/
def cw (p : aS) (l : Nat) : Nat := p.2.2.1 (p.1 l)
def cs (p : aS) (l : Nat) : Nat := p.2.1 (p.1 l)
def cd (p : aS) (l : Nat) : Bool := p.2.2.2.1 (p.1 l)
def lowL (p : aS) (T : Nat → Nat) (l : Nat) : Nat := if cd p l = true then 0 else (T (p.1 l) + 1000 - cs p l) % cw p l
def fitL (p : aS) (T : Nat → Nat) (V l : Nat) : Bool := if cd p l = true then decide (cs p l % cw p l = T (p.1 l)) else decide (T (p.1 l) < cw p l) && decide (lowL p T l ≤ V)
def stpL (p : aS) (l : Nat) : Nat := if cd p l = true then 1 else cw p l
def told (p : aS) (T : Nat → Nat) (l v : Nat) : Bool := decide ((if cd p l = true then cs p l % cw p l else (cs p l + v) % cw p l) = T (p.1 l))
def allB (f : Nat → Bool) : Nat → Bool
  | 0 => true
  | n + 1 => allB f n && f n
def smL (R : xM) (lw : Nat → Nat) (o : Nat) : Nat → Nat
  | 0 => 0
  | n + 1 => smL R lw o n + (if R 3 n = nI o then lw n else 0)
def shw (R : xM) (m : Nat) : Nat → Nat := fun c => (R 12 (m * 16 + c)).toNatClampNeg
def kO (R : xM) (o : Nat) : Nat := (R 2 o).toNatClampNeg
def fL (R : xM) (p : aS) (T : Nat → Nat) (V l : Nat) : Bool := decide (R 3 l = -1) || fitL p T V l
def fO (R : xM) (p : aS) (T : Nat → Nat) (V lv o : Nat) : Bool := p.2.2.2.2 o || decide (smL R (lowL p T) o lv ≤ kO R o * V)
section FIT3
variable {C R : xM} {p : aS} {T : Nat → Nat} {V : Nat}
theorem xx (M : xM) (k j : Nat) (a b : Int32) : xset (xset M k j a) k j b = xset M k j b := by
  funext x y
  unfold xset
  by_cases h : x = k ∧ y = j
  · rw [if_pos h, if_pos h]
  · rw [if_neg h, if_neg h, if_neg h]
theorem allB_at {f : Nat → Bool} : ∀ {n : Nat}, allB f n = true → ∀ i, i < n → f i = true := by
  intro n
  induction n with
  | zero => exact fun _ i hi => absurd hi (by omega)
  | succ n ih =>
    intro h i hi
    rw [allB, Bool.and_eq_true] at h
    by_cases e : i = n
    · rw [e]
      exact h.2
    · exact ih h.1 i (by omega)
theorem allB_no {f : Nat → Bool} {i : Nat} (h : f i = false) : ∀ {n : Nat}, i < n → allB f n = false := by
  intro n
  induction n with
  | zero => exact fun hi => absurd hi (by omega)
  | succ n ih =>
    intro hi
    rw [allB]
    by_cases e : i = n
    · rw [← e, h, Bool.and_false]
    · rw [ih (by omega), Bool.false_and]
theorem cw_in (hp : okA p) {l : Nat} (hl : l < 16) : cw p l = 10 ∨ cw p l = 100 ∨ cw p l = 1000 := hp.2.2 _ (hp.1 l hl)
theorem cs_le (hp : okA p) {l : Nat} (hl : l < 16) : cs p l ≤ 999 := hp.2.1 _ (hp.1 l hl)
theorem low_le (hp : okA p) {l : Nat} (hl : l < 16) : lowL p T l ≤ 999 := by
  have h1 := cw_in hp hl
  unfold lowL
  split
  · omega
  · rcases h1 with h | h | h <;> rw [h] <;> omega
/-- what is told, by the least -/
theorem told_iff (hp : okA p) {l : Nat} (hl : l < 16) (hd : cd p l = false) (v : Nat) : told p T l v = (decide (T (p.1 l) < cw p l) && decide (v % cw p l = lowL p T l)) := by
  have h1 := cw_in hp hl
  have h2 := cs_le hp hl
  unfold told lowL
  rw [hd]
  simp only [Bool.false_eq_true, if_false]
  rw [← Bool.decide_and, decide_eq_decide]
  generalize T (p.1 l) = a at *
  generalize cs p l = b at *
  generalize cw p l = c at *
  rcases h1 with rfl | rfl | rfl <;> omega
theorem told_dead {l : Nat} (hd : cd p l = true) (v : Nat) : told p T l v = fitL p T V l := by
  unfold told fitL
  rw [hd]
  simp
theorem fit_told (hp : okA p) {l : Nat} (hl : l < 16) (h : fitL p T V l = true) : lowL p T l ≤ V ∧ told p T l (lowL p T l) = true ∧ ∀ v, told p T l v = true → lowL p T l ≤ v := by
  cases hd : cd p l with
  | true =>
    have e : lowL p T l = 0 := by
      unfold lowL
      rw [hd, if_pos rfl]
    rw [e]
    exact ⟨Nat.zero_le _, (told_dead (V := V) hd 0).trans h, fun v _ => Nat.zero_le v⟩
  | false =>
    have h' := h
    unfold fitL at h'
    rw [hd] at h'
    simp only [Bool.false_eq_true, if_false, Bool.and_eq_true, decide_eq_true_eq] at h'
    refine ⟨h'.2, ?_, fun v hv => ?_⟩
    · rw [told_iff hp hl hd, decide_eq_true h'.1, Bool.true_and]
      apply decide_eq_true
      have h1 := cw_in hp hl
      unfold lowL
      rw [hd, if_neg (by decide), Nat.mod_mod]
    · rw [told_iff hp hl hd] at hv
      simp only [Bool.and_eq_true, decide_eq_true_eq] at hv
      rw [← hv.2]
      exact Nat.mod_le _ _
theorem told_fit (hp : okA p) {l : Nat} (hl : l < 16) {v : Nat} (h : told p T l v = true) (hv : v ≤ V) : fitL p T V l = true := by
  cases hd : cd p l with
  | true => exact (told_dead hd v).symm.trans h
  | false =>
    rw [told_iff hp hl hd] at h
    simp only [Bool.and_eq_true, decide_eq_true_eq] at h
    unfold fitL
    rw [hd]
    simp only [Bool.false_eq_true, if_false, Bool.and_eq_true, decide_eq_true_eq]
    refine ⟨h.1, ?_⟩
    have := Nat.mod_le v (cw p l)
    omega
-- the reference
theorem isTold_ok {S : xM} {m : Nat} (hm : m < 6) (hp : okA p) (hA : AR S p) (h43 : S 0 43 = nI m) (hT : ∀ c, c < 16 → S 12 (m * 16 + c) = nI (T c) ∧ T c ≤ 999) {l v : Nat} (hl : l < 16) (hv : v ≤ 1000) : F_X12_isTold (nI l) (nI v) S = some (if told p T l v = true then 1 else 0, S) := by
  obtain ⟨a1, a2, a3⟩ := hA
  have hc := hp.1 l hl
  have hw := cw_in hp hl
  have hs := cs_le hp hl
  obtain ⟨t1, t2⟩ := hT _ hc
  unfold F_X12_isTold F_X12_shown F_X12_shown_b20
  have e19 : S 19 l = nI (p.1 l) := (a1 l hl).1
  have e20 : S 20 (p.1 l) = nI (cs p l) := (a1 _ hc).2.1
  have e21 : S 21 (p.1 l) = nI (cw p l) := (a1 _ hc).2.2
  have e23 : S 23 (p.1 l) = if cd p l = true then 1 else 0 := a2 _ hc
  have cnt : (16 : Int32) * nI m + nI (p.1 l) = nI (m * 16 + p.1 l) := cnt2 m _
  have rem : ∀ x, x ≤ 2000 → nI x - nI x / 1000 * 1000 = nI (x % 1000) := fun x hx => pk_rem (d := 1000) (by omega) (by decide) (by decide)
  have rem2 : ∀ x, x < 1000 → nI x - nI x / nI (cw p l) * nI (cw p l) = nI (x % cw p l) := fun x hx => pk_rem (by omega) (by omega) (by omega)
  have h1000 : ¬ ((1000 : Int32) = 0) := by decide
  have mm : ∀ x, x % 1000 % cw p l = x % cw p l := fun x => by
    rcases hw with h | h | h <;> rw [h] <;> omega
  have tl : nI (T (p.1 l)) = S 12 (m * 16 + p.1 l) := t1.symm
  rw [if_neg (idx_no hl (by decide)), nI_clamp (by omega), e19, if_neg (idx_no hc (by decide)), if_neg (idx_no hc (by decide)), nI_clamp (by omega), e23, e20, e21, if_neg h1000, if_neg h1000, if_neg (idx_no2 hc (by decide)), if_neg (idx_no2 hc (by decide)), if_neg (nI_ne0 (by omega) (by omega)), if_neg (nI_ne0 (by omega) (by omega))]
  have fin : ∀ x, x ≤ 2000 → ((some (nI x - nI x / 1000 * 1000 - (nI x - nI x / 1000 * 1000) / nI (cw p l) * nI (cw p l), S) : Option (Int32 × xM)).bind fun q1 => if (16 * q1.2 0 43 + nI (p.1 l)) < 0 ∨ 96 ≤ (16 * q1.2 0 43 + nI (p.1 l)).toNatClampNeg then none else if q1.1 = q1.2 12 (16 * q1.2 0 43 + nI (p.1 l)).toNatClampNeg then some ((1 : Int32), q1.2) else some ((0 : Int32), q1.2)) = some (if decide (x % cw p l = T (p.1 l)) = true then 1 else 0, S) := by
    intro x hx
    have hlt := Nat.mod_lt x (show 1000 > 0 by decide)
    have hlt2 := Nat.mod_lt x (show cw p l > 0 by omega)
    simp only [Option.bind_some]
    rw [rem x hx, rem2 _ hlt, h43, cnt, if_neg (idx_no (show m * 16 + p.1 l < 96 by omega) (by decide)), nI_clamp (by omega), t1, mm]
    by_cases z : x % cw p l = T (p.1 l)
    · rw [if_pos (by rw [z]), decide_eq_true z, if_pos rfl]
    · rw [if_neg (fun y => z ((nI_eq (by omega) (by omega)).mp y)), decide_eq_false z, if_neg (by decide)]
  cases hd : cd p l with
  | true =>
    rw [if_pos rfl, if_neg (show ¬ ((1 : Int32) = 0) by decide), Int32.add_zero]
    rw [fin (cs p l) (by omega)]
    unfold told
    rw [hd, if_pos rfl]
  | false =>
    rw [if_neg (show ¬ (false = true) by decide), if_pos rfl, nI_add]
    rw [fin (cs p l + v) (by omega)]
    unfold told
    rw [hd]
    simp only [Bool.false_eq_true, if_false]
/-- the search for the least PULLS of a LEVER -/
theorem lst_loop {S : xM} {m lv : Nat} (hm : m < 6) (hp : okA p) (hA : AR S p) (h43 : S 0 43 = nI m) (h44 : S 0 44 = nI V) (hV : V ≤ 999) (hT : ∀ c, c < 16 → S 12 (m * 16 + c) = nI (T c) ∧ T c ≤ 999) {l : Nat} (hl : l < 16) (fu : Nat) (x1 x2 : Int32) (K : Int32 → xM → Option (Int32 × xM)) : ∀ k v n, v + k = V + 1 → k < n → (∀ u, u < v → told p T l u = false) →
    F_X12_fits_b49 fu x1 x2 K n (nI l) (xset S 22 l (nI v)) = if fitL p T V l = true then K (nI (l + 1)) (xset S 22 l (nI (lowL p T l))) else some (0, xset S 22 l (nI (V + 1))) := by
  have s22 : ∀ a : Int32, (xset S 22 l a) 22 l = a := fun a => by simp [xset]
  have s44 : ∀ a : Int32, (xset S 22 l a) 0 44 = nI V := fun a => h44
  intro k
  induction k with
  | zero =>
    intro v n hv hn hu
    obtain ⟨n, rfl⟩ : ∃ z, n = z + 1 := ⟨n - 1, by omega⟩
    obtain rfl : v = V + 1 := by omega
    rw [F_X12_fits_b49, if_neg (idx_no hl (by decide)), nI_clamp (by omega), s22, s44, if_pos (nI_lt (by omega) (by omega))]
    unfold F_X12_fits_b89
    rw [if_neg (idx_no hl (by decide)), nI_clamp (by omega), s22, s44, if_neg (nI_ge (by omega) (by omega))]
    cases hf : fitL p T V l with
    | false => rw [if_neg (by decide)]
    | true =>
      obtain ⟨f1, f2, f3⟩ := fit_told hp hl hf
      rw [hu _ (by omega)] at f2
      exact absurd f2 (by decide)
  | succ k ih =>
    intro v n hv hn hu
    obtain ⟨n, rfl⟩ : ∃ z, n = z + 1 := ⟨n - 1, by omega⟩
    have e1 := isTold_ok (S := xset S 22 l (nI v)) hm hp hA h43 hT hl (show v ≤ 1000 by omega)
    rw [F_X12_fits_b49, if_neg (idx_no hl (by decide)), nI_clamp (by omega), s22, s44, if_neg (nI_nlt (by omega) (by omega)), if_neg (idx_no2 hl (by decide)), e1]
    simp only [Option.bind_some]
    cases ht : told p T l v with
    | true =>
      rw [if_pos rfl, if_neg (show ¬ ((1 : Int32) = 0) by decide)]
      have hf := told_fit (V := V) hp hl ht (by omega)
      obtain ⟨f1, f2, f3⟩ := fit_told hp hl hf
      have ev : lowL p T l = v := by
        have h1 := f3 v ht
        by_cases z : lowL p T l < v
        · rw [hu _ z] at f2
          exact absurd f2 (by decide)
        · omega
      unfold F_X12_fits_b89 F_X12_fits_b104
      rw [if_neg (idx_no hl (by decide)), nI_clamp (by omega), s22, s44, if_pos (nI_le (by omega) (by omega)), hf, if_pos rfl, ev, add1]
    | false =>
      rw [if_neg (show ¬ (false = true) by decide), if_pos rfl, if_neg (idx_no2 hl (by decide)), if_neg (idx_no2 hl (by decide)), s22, add1, xx]
      refine ih (v + 1) n (by omega) (by omega) fun u hu2 => ?_
      by_cases e : u = v
      · rw [e]
        exact ht
      · exact hu u (by omega)
end FIT3
