/-! What a counter SHOWS behind a TEST with one FAULT; sees -/
section TRIAL3
variable {R C : xM} {m lv on mn sn fu t tm : Nat} {row : Int32}
theorem qB_one {p : aS} {c d : Nat} (hd : d < lv) (h : ∀ l, l < lv → (p.1 l = c ↔ l = d)) : qB R p on sn lv row tm c = if (tb row d && letP R p on sn row) = true then tm else 0 := by
  unfold qB
  rw [anyB_one (d := d) hd (fun l hl hne => by rw [decide_eq_false (fun z => hne ((h l hl).mp z)), Bool.false_and]), decide_eq_true ((h d hd).mpr rfl), Bool.true_and]
theorem ms8 {m k : Nat} : nI m * 8 + nI k = nI (m * 8 + k) := cnt3 m k
theorem shw_ok' {M : xM} (hfu : 70000 ≤ fu) (hs : SV M R sn) (hm : m < 6) (ht : t < 8) (m43 : M 43 t = row) (m44 : M 44 t = nI tm) (htm : tm ≤ 200) (hlv : lv ≤ 16) (hz : ∀ o, on ≤ o → o < 6 → R 1 o = 0) (h11 : ∀ o, o < 6 → M 11 o = R 1 o) {k : Nat} (hk : k < 8) {kk aa bb : Int32} (e28 : M 28 (m * 8 + k) = kk) (e29 : M 29 (m * 8 + k) = aa) (e30 : M 30 (m * 8 + k) = bb) (hok : okF lv kk aa bb) {c : Nat} (hc : c < lv) : F_X10_shows fu (nI t) (nI m) (nI k) (nI c) M = some (nI (bhV (stA kk aa.toNatClampNeg bb a0S) c (qB R (stA kk aa.toNatClampNeg bb a0S) on sn lv row tm c)), M) := by
  have hidx : m * 8 + k < 48 := by omega
  have hc16 : c < 16 := by omega
  have pu := fun {l : Nat} (hl : l < 16) (f : Int32) => pu_ok (M := M) (R := R) hfu hs ht m43 m44 hl f
  have p1 := fun (l : Nat) (f : Int32) => pl_le (R := R) (sn := sn) (tm := tm) row l f htm
  unfold F_X10_shows F_X10_shows_b78
  rw [P_X5_kindOf, P_X5_firstOf, P_X5_secondOf, ms8, at_ok hidx (by decide), at_ok hidx (by decide), at_ok hidx (by decide), e28, e29, e30]
  have same : ∀ {p : aS}, (∀ l, p.1 l = l) → (∀ o, p.2.2.2.2 o = false) → qB R p on sn lv row tm c = plF R sn row tm c 0 := fun {p} hid hoff => by
    rw [qB_one (d := c) hc (fun l _ => by rw [hid l]), let0 hs hoff]
    rfl
  rcases hok with ⟨rfl, ⟨j, hj, rfl⟩, hb⟩ | ⟨rfl, ⟨j, hj, rfl⟩, ⟨i, hi, rfl⟩, hne⟩ | ⟨rfl, ⟨j, hj, rfl⟩⟩ | ⟨rfl, ⟨j, hj, rfl⟩, w, hw1, hw2, rfl⟩ | ⟨rfl, ⟨j, hj, rfl⟩⟩
  · rw [nI_clamp (by omega), if_neg (show ¬ ((0 : Int32) = 4) by decide), if_neg (show ¬ ((0 : Int32) = 1) by decide), pu hc16]
    simp only [Option.bind_some, if_true]
    have eP : stA 0 j bb a0S = (fun j => j, fun _ => 0, fn (fun _ => 1000) j (if bb = 0 then min 1000 10 else min 1000 100), fun _ => false, fun _ => false) := by
      unfold stA
      rw [if_pos rfl]
      rfl
    rw [same (p := stA 0 j bb a0S) (fun l => by rw [eP]) (fun o => by rw [eP])]
    have hq := p1 c 0
    unfold bhV
    rw [eP]
    show _ = some (nI ((0 + (if false = true then 0 else plF R sn row tm c 0)) % fn (fun _ => 1000) j (if bb = 0 then min 1000 10 else min 1000 100) c), M)
    rw [if_neg (show ¬ (false = true) by decide), Nat.zero_add, fn_at]
    by_cases e : c = j
    · rw [if_pos (by rw [e]), if_pos e]
      unfold P_X5_wheel
      by_cases z : bb = 0
      · rw [if_pos z, if_pos z, show (10 : Int32) = nI 10 from rfl, mod_ok (by omega) (by omega)]
        rfl
      · rw [if_neg z, if_neg z, show (100 : Int32) = nI 100 from rfl, mod_ok (by omega) (by omega)]
        rfl
    · rw [if_neg (fun z => e ((nI_eq (by omega) (by omega)).mp z)), if_neg e, Nat.mod_eq_of_lt (by omega)]
  · have hij : ¬ j = i := fun e => hne (by rw [e])
    rw [nI_clamp (by omega), if_neg (show ¬ ((1 : Int32) = 4) by decide), if_pos rfl, pu (show j < 16 by omega), pu hc16]
    simp only [Option.bind_some, if_true, if_neg (show ¬ ((1 : Int32) = 0) by decide)]
    have eP : stA 1 j (nI i) a0S = (fn (fn (fun j => j) j i) i j, fun _ => 0, fun _ => 1000, fun _ => false, fun _ => false) := by
      unfold stA
      rw [if_neg (by decide), if_pos rfl, nI_clamp (by omega)]
      rfl
    have hoff : ∀ o, (stA 1 j (nI i) a0S).2.2.2.2 o = false := fun o => by rw [eP]
    have q1 : ∀ d, d < lv → (∀ l, l < lv → (fn (fn (fun j => j) j i) i j l = c ↔ l = d)) → qB R (stA 1 j (nI i) a0S) on sn lv row tm c = plF R sn row tm d 0 := fun d hd h => by
      rw [qB_one (d := d) hd (fun l hl => by rw [eP]; exact h l hl), let0 hs hoff]
      rfl
    have v1 : ∀ d, qB R (stA 1 j (nI i) a0S) on sn lv row tm c = plF R sn row tm d 0 → bhV (stA 1 j (nI i) a0S) c (qB R (stA 1 j (nI i) a0S) on sn lv row tm c) = plF R sn row tm d 0 := fun d hd => by
      rw [hd]
      have hq := p1 d 0
      unfold bhV
      rw [eP]
      show (0 + (if false = true then 0 else plF R sn row tm d 0)) % 1000 = _
      rw [if_neg (by decide), Nat.zero_add, Nat.mod_eq_of_lt (by omega)]
    by_cases e : c = i
    · rw [if_pos (by rw [e])]
      rw [v1 j (q1 j hj (fun l hl => by rw [fn_at, fn_at]; split <;> (try split) <;> omega))]
    · rw [if_neg (fun z => e ((nI_eq (by omega) (by omega)).mp z))]
      by_cases e2 : c = j
      · rw [if_pos (by rw [e2]), pu (show i < 16 by omega)]
        simp only [Option.bind_some]
        rw [v1 i (q1 i hi (fun l hl => by rw [fn_at, fn_at]; split <;> (try split) <;> omega))]
      · rw [if_neg (fun z => e2 ((nI_eq (by omega) (by omega)).mp z))]
        rw [v1 c (q1 c hc (fun l hl => by rw [fn_at, fn_at]; split <;> (try split) <;> omega))]
  · rw [nI_clamp (by omega), if_neg (show ¬ ((2 : Int32) = 4) by decide), if_neg (show ¬ ((2 : Int32) = 1) by decide), pu hc16]
    simp only [Option.bind_some, if_true, if_neg (show ¬ ((2 : Int32) = 0) by decide), if_neg (show ¬ ((2 : Int32) = 1) by decide)]
    have eP : stA 2 j bb a0S = (fun j => j, fun _ => 0, fun _ => 1000, fnb (fun _ => false) j, fun _ => false) := by
      unfold stA
      rw [if_neg (by decide), if_neg (by decide), if_pos rfl]
      rfl
    rw [same (p := stA 2 j bb a0S) (fun l => by rw [eP]) (fun o => by rw [eP])]
    have hq := p1 c 0
    unfold bhV
    rw [eP]
    show _ = some (nI ((0 + (if fnb (fun _ => false) j c = true then 0 else plF R sn row tm c 0)) % 1000), M)
    unfold fnb
    by_cases e : c = j
    · rw [if_pos (by rw [e]), if_pos e, if_pos rfl]
      rfl
    · rw [if_neg (fun z => e ((nI_eq (by omega) (by omega)).mp z)), if_neg e, if_neg (show ¬ (false = true) by decide), Nat.zero_add, Nat.mod_eq_of_lt (by omega)]
  · rw [nI_clamp (by omega), if_neg (show ¬ ((3 : Int32) = 4) by decide), if_neg (show ¬ ((3 : Int32) = 1) by decide), pu hc16]
    simp only [Option.bind_some, if_neg (show ¬ ((3 : Int32) = 0) by decide), if_neg (show ¬ ((3 : Int32) = 1) by decide), if_neg (show ¬ ((3 : Int32) = 2) by decide)]
    have eP : stA 3 j (nI w) a0S = (fun j => j, fn (fun _ => 0) j w, fun _ => 1000, fun _ => false, fun _ => false) := by
      unfold stA
      rw [if_neg (by decide), if_neg (by decide), if_neg (by decide), if_pos rfl, nI_clamp (by omega)]
      rfl
    rw [same (p := stA 3 j (nI w) a0S) (fun l => by rw [eP]) (fun o => by rw [eP])]
    have hq := p1 c 0
    unfold bhV
    rw [eP]
    show _ = some (nI ((fn (fun _ => 0) j w c + (if false = true then 0 else plF R sn row tm c 0)) % 1000), M)
    rw [if_neg (show ¬ (false = true) by decide), fn_at]
    by_cases e : c = j
    · rw [if_pos (by rw [e]), if_pos e, nI_add, show (1000 : Int32) = nI 1000 from rfl, mod_ok (by omega) (by omega)]
    · rw [if_neg (fun z => e ((nI_eq (by omega) (by omega)).mp z)), if_neg e, Nat.zero_add, Nat.mod_eq_of_lt (by omega)]
  · rw [nI_clamp (by omega), if_pos rfl, P_X0_leversOf, at_ok hj (by decide), h11 j hj, pu hc16]
    have eP : stA 4 j bb a0S = (fun j => j, fun _ => 0, fun _ => 1000, fun _ => false, fnb (fun _ => false) j) := by
      unfold stA
      rw [if_neg (by decide), if_neg (by decide), if_neg (by decide), if_neg (by decide)]
      rfl
    have hq : qB R (stA 4 j bb a0S) on sn lv row tm c = plF R sn row tm c (R 1 j) := by
      rw [qB_one (d := c) hc (fun l _ => by rw [eP]), let4 hs hz hj (fun o => by
        rw [eP]
        show fnb (fun _ => false) j o = _
        unfold fnb
        by_cases e : o = j
        · rw [if_pos e, decide_eq_true e]
        · rw [if_neg e, decide_eq_false e])]
      rfl
    have hq2 := p1 c (R 1 j)
    rw [hq]
    unfold bhV
    rw [eP]
    show _ = some (nI ((0 + (if false = true then 0 else plF R sn row tm c (R 1 j))) % 1000), M)
    rw [if_neg (show ¬ (false = true) by decide), Nat.zero_add, Nat.mod_eq_of_lt (by omega)]
    rfl
theorem arr_0 (R : xM) (m : Nat) : ∀ f, arr R m 0 f = a0S := by
  intro f
  induction f with
  | zero => rfl
  | succ f ih => rw [arr, ih, Nat.zero_testBit, if_neg (by decide)]
theorem arr_k (R : xM) (m k : Nat) : ∀ f, arr R m (2 ^ k) f = if k < f then stA (R 16 (m * 8 + k)) (R 17 (m * 8 + k)).toNatClampNeg (R 18 (m * 8 + k)) a0S else a0S := by
  intro f
  induction f with
  | zero => rfl
  | succ f ih =>
    rw [arr, ih, Nat.testBit_two_pow]
    by_cases e : k = f
    · subst e
      rw [decide_eq_true rfl, if_pos rfl, if_neg (Nat.lt_irrefl k), if_pos (Nat.lt_succ_self k)]
    · rw [decide_eq_false e, if_neg (by decide)]
      by_cases z : k < f
      · rw [if_pos z, if_pos (by omega)]
      · rw [if_neg z, if_neg (by omega)]
/-- the world of TESTS -/
def TW (fu lv on mn sn tn : Nat) (C R : xM) : Prop := FW fu lv on mn C R ∧ SV C R sn ∧ RX C R ∧ RZ C R ∧ C 8 2 = nI tn ∧ R 0 49 = nI tn ∧ tn ≤ 8
theorem TW.mk' (hN : RN C R) (hO : RO C R) (hF : RF C R) (hS : RS C R) (hQ : RQ C R) (hC : RC C R) (hY : RY fu C R) (hP : RP C R) (hX : RX C R) (hZ : RZ C R) : ∃ lv on mn sn tn, TW fu lv on mn sn tn C R := by
  have hN0 := hN
  obtain ⟨lv, on, sn, ln, mn, tn, tl, kn, ⟨b1, b2, b3, b4, b5, b6, b7, b8, b9⟩, ⟨c1, c2, c3, c4, c5, c6, c7, c8⟩, ⟨r1, r2, r3, r4, r5, r6, r7, r8⟩⟩ := hN
  exact ⟨lv, on, mn, sn, tn, ⟨hN0, hO, hF, hS, hQ, hC, hY, r1, r2, r5, c1, c2, c5, b2, b3, b6⟩, ⟨b4, c3, r3, hP⟩, hX, hZ, c6, r6, b7⟩
theorem sees_one {M S : xM} {tn : Nat} (hfu : 70000 ≤ fu) (hW : TW fu lv on mn sn tn M R) (hS : xfr wrT R S) (ht : t < tn) (hm : m < mn) {k : Nat} (hk : k < nF R m) : ∃ v S', F_X10_seesFault fu (nI t) (nI m) (nI k) M = some (v, M) ∧ F_X12_seesOne fu (nI t) (nI m) (nI k) S = some (v, S') ∧ xfr wrT R S' := by
  obtain ⟨hF, hSV, hX, hZ, c82, r49, htn⟩ := hW
  have hb6 := hF.b16
  have hcc := hF.cc
  have hm6 := hF.m6 hm
  obtain ⟨F, hF8, eF, ecl, hQC, hQR, hok, hA0, _⟩ := mf_ok hF hm
  have eF' : nF R m = F := ecl
  rw [eF'] at hk
  obtain ⟨x1, x2, x3⟩ := hX
  have ht8 : t < 8 := by omega
  obtain ⟨rowN, hrow, erow⟩ := x2 t ht8
  obtain ⟨tm, htm, etm⟩ := x3 t ht8
  have m43 : M 43 t = R 26 t := (x1 t ht8).1
  have m44 : M 44 t = nI tm := (x1 t ht8).2.trans etm
  have h11 : ∀ o, o < 6 → M 11 o = R 1 o := fun o ho => (hF.2.1.1 o ho).1
  have hz : ∀ o, on ≤ o → o < 6 → R 1 o = 0 := fun o h1 h2 => by
    obtain ⟨on', ho', e', hz'⟩ := hZ
    have : on' = on := (nI_eq (by omega) (by omega)).mp (e'.symm.trans hcc.2.1)
    subst this
    rw [← h11 o h2]
    exact hz' o h1 h2
  obtain ⟨lv', hlv', hok'⟩ := hok
  have hokF : okF lv (R 16 (m * 8 + k)) (R 17 (m * 8 + k)) (R 18 (m * 8 + k)) := by
    obtain ⟨_, _, lv2, hl2, el2, q3⟩ := hF.2.2.2.2.1
    have : lv2 = lv := (nI_eq (by omega) (by omega)).mp (el2.symm.trans hcc.2.2.2.1)
    subst this
    exact q3 m F k hm6 eF hF8 hk
  obtain ⟨q28, q29, q30⟩ := hQC.2 (m * 8 + k) (by omega)
  have hVC := fun {c : Nat} (hc : c < lv) => shw_ok' (on := on) hfu hSV hm6 ht8 m43 m44 htm hb6.1 hz h11 (show k < 8 by omega) q28 q29 q30 hokF hc
  have hPU := fun {l : Nat} (hl : l < 16) => pu_ok (M := M) (R := R) (tm := tm) hfu hSV ht8 m43 m44 hl 0
  -- the reference, plain
  have fQ : ∀ {S : xM}, xfr wrT R S → QR R S m F := fun {S} h => ⟨(h 15 m rfl).trans eF, fun j _ => ⟨h 16 j rfl, h 17 j rfl, h 18 j rfl⟩⟩
  have fP : ∀ {S : xM} {p : aS}, xfr wrT R S → (∀ o, o < 6 → tb (S 0 42) o = p.2.2.2.2 o) → SP' M R S p on sn := fun {S p} h h42 => ⟨hSV, (h 0 8 rfl).trans hSV.2.2.1, (h 0 7 rfl).trans hcc.2.2.2.2.1, hb6.2.1, fun j => h 4 j rfl, fun j => h 5 j rfl, fun j => h 1 j rfl, h42⟩
  obtain ⟨S1, e1, hA1, _⟩ := arrR (s := 0) hfu hm6 hF8 ⟨lv', hlv', hok'⟩ (hA0 0) (fQ hS)
  have f1 : xfr wr_X12_lay S S1 := fr_X12_lay _ _ _ _ _ e1
  have hS1 : xfr wrT R S1 := hS.tr (f1.mono (by decide))
  rw [arr_0] at hA1
  have okA0 : okA a0S := arr0_ok R m 0
  have plain : ∀ {S : xM}, xfr wrT R S → AR S a0S → ∀ c, c < lv → F_X12_behind fu (nI t) (nI c) S = some (nI (plF R sn (R 26 t) tm c 0), S) := fun {S} hS hA c hc => by
    have hb := bh_ok (R := R) (C := M) (row := R 26 t) (tm := tm) hfu hA okA0 (fP hS hA.2.2) hb6.1 ((hS 0 1 rfl).trans hcc.2.2.2.1) ht8 (hS 26 t rfl) ((hS 27 t rfl).trans etm) htm (show c < 16 by omega)
    rw [hb]
    have hq : qB R a0S on sn lv (R 26 t) tm c = plF R sn (R 26 t) tm c 0 := by
      rw [qB_one (d := c) hc (fun l _ => Iff.rfl), let0 hSV (fun _ => rfl)]
      rfl
    rw [hq]
    have := pl_le (R := R) (sn := sn) (tm := tm) (R 26 t) c 0 htm
    unfold bhV
    show some (nI ((0 + (if false = true then 0 else plF R sn (R 26 t) tm c 0)) % 1000), S) = _
    rw [if_neg (show ¬ (false = true) by decide), Nat.zero_add, Nat.mod_eq_of_lt (by omega)]
  have lay1 : ∀ q c n S, c + q = lv → q < n → xfr wrT R S → AR S a0S → (∀ c', c' < c → S 28 c' = nI (plF R sn (R 26 t) tm c' 0)) → ∃ S', F_X12_seesOne_b9 fu (nI t) (nI m) (nI k) n (nI c) S = (F_X12_lay fu (nI m) ((1 : Int32) <<< (nI k &&& 31)) S').bind (fun q1 => F_X12_seesOne_b49 fu (nI t) (nI m) (nI k) fu 0 q1) ∧ xfr wrT R S' ∧ ∀ c', c' < lv → S' 28 c' = nI (plF R sn (R 26 t) tm c' 0) := by
    intro q
    induction q with
    | zero =>
      intro c n S hc hn hS hA hp
      obtain ⟨n, rfl⟩ : ∃ z, n = z + 1 := ⟨n - 1, by omega⟩
      obtain rfl : c = lv := by omega
      rw [F_X12_seesOne_b9, hS 0 1 rfl, hcc.2.2.2.1, if_pos (nI_le (Nat.le_refl _) (by omega))]
      exact ⟨S, rfl, hS, hp⟩
    | succ q ih =>
      intro c n S hc hn hS hA hp
      obtain ⟨n, rfl⟩ : ∃ z, n = z + 1 := ⟨n - 1, by omega⟩
      rw [F_X12_seesOne_b9, hS 0 1 rfl, hcc.2.2.2.1, if_neg (show ¬ nI lv ≤ nI c from nI_ge (by omega) (by omega)), plain hS hA c (by omega)]
      simp only [Option.bind_some]
      rw [if_neg (idx_no (show c < 16 by omega) (by decide)), nI_clamp (by omega), add1]
      refine ih (c + 1) n _ (by omega) (by omega) (hS.setf (xin_none (by decide) _)) hA (fun c' hc' => ?_)
      by_cases e : c' = c
      · subst e
        simp [xset]
      · rw [← hp c' (by omega)]
        simp [xset, e]
  obtain ⟨S2, e2, hS2, h28⟩ := lay1 lv 0 fu S1 (by omega) (by omega) hS1 hA1 (fun c' h => absurd h (by omega))
  obtain ⟨S3, e3, hA3, _⟩ := arrR (s := 2 ^ k) hfu hm6 hF8 ⟨lv', hlv', hok'⟩ (hA0 (2 ^ k)) (fQ hS2)
  have f3 : xfr wr_X12_lay S2 S3 := fr_X12_lay _ _ _ _ _ e3
  have hS3 : xfr wrT R S3 := hS2.tr (f3.mono (by decide))
  have okA3 := hA0 (2 ^ k) F (Nat.le_refl F)
  rw [arr_k, if_pos hk] at hA3 okA3
  have hb := rb_ok hF
  have loop : ∀ q c n1 n2, c + q = lv → q < n1 → q < n2 → ∃ v, F_X10_seesFault_b3 fu (nI t) (nI m) (nI k) n1 (nI c) M = some (v, M) ∧ F_X12_seesOne_b49 fu (nI t) (nI m) (nI k) n2 (nI c) S3 = some (v, S3) := by
    intro q
    induction q with
    | zero =>
      intro c n1 n2 hc h1 h2
      obtain ⟨n1, rfl⟩ : ∃ z, n1 = z + 1 := ⟨n1 - 1, by omega⟩
      obtain ⟨n2, rfl⟩ : ∃ z, n2 = z + 1 := ⟨n2 - 1, by omega⟩
      rw [F_X10_seesFault_b3, F_X12_seesOne_b49, hcc.1, hS3 0 1 rfl, hcc.2.2.2.1, if_pos (nI_le (by omega) (by omega)), if_pos (nI_le (by omega) (by omega))]
      exact ⟨0, rfl, rfl⟩
    | succ q ih =>
      intro c n1 n2 hc h1 h2
      obtain ⟨n1, rfl⟩ : ∃ z, n1 = z + 1 := ⟨n1 - 1, by omega⟩
      obtain ⟨n2, rfl⟩ : ∃ z, n2 = z + 1 := ⟨n2 - 1, by omega⟩
      have hcl : c < lv := by omega
      have I := ih (c + 1) n1 n2 (by omega) (by omega) (by omega)
      rw [F_X10_seesFault_b3, F_X12_seesOne_b49, hcc.1, hS3 0 1 rfl, hcc.2.2.2.1, if_neg (show ¬ nI lv ≤ nI c from nI_ge (by omega) (by omega)), if_neg (show ¬ nI lv ≤ nI c from nI_ge (by omega) (by omega)), P_X0_isRuled, has_tb (show c ≤ 30 by omega), if_neg (idx_no (show c < 16 by omega) (by decide)), nI_clamp (by omega), hS3 3 c rfl]
      simp only [F_X10_seesFault_b49, F_X12_seesOne_b88, add1]
      by_cases hr : R 3 c = -1
      · have htb : tb (M 1 7) c = false := by
          cases hbb : tb (M 1 7) c with
          | false => rfl
          | true => exact absurd hr ((hb.1 c hcl).mp hbb)
        rw [htb, if_neg (show ¬ (false = true) by decide), if_pos rfl, if_pos hr]
        exact I
      · rw [(hb.1 c hcl).mpr hr, if_pos rfl, if_neg (show ¬ ((1 : Int32) = 0) by decide), if_neg hr, hVC hcl]
        simp only [Option.bind_some]
        rw [hPU (show c < 16 by omega), bh_ok (R := R) (C := M) (row := R 26 t) (tm := tm) hfu hA3 okA3 (fP hS3 hA3.2.2) hb6.1 ((hS3 0 1 rfl).trans hcc.2.2.2.1) ht8 (hS3 26 t rfl) ((hS3 27 t rfl).trans etm) htm (show c < 16 by omega)]
        simp only [Option.bind_some]
        rw [if_neg (idx_no2 (show c < 16 by omega) (by decide)), f3 28 c rfl, h28 c hcl]
        generalize nI (bhV (stA (R 16 (m * 8 + k)) (R 17 (m * 8 + k)).toNatClampNeg (R 18 (m * 8 + k)) a0S) c (qB R (stA (R 16 (m * 8 + k)) (R 17 (m * 8 + k)).toNatClampNeg (R 18 (m * 8 + k)) a0S) on sn lv (R 26 t) tm c)) = V
        by_cases z : V = nI (plF R sn (R 26 t) tm c 0)
        · rw [if_pos z, if_pos z]
          exact I
        · rw [if_neg z, if_neg z]
          exact ⟨1, rfl, rfl⟩
  obtain ⟨v, g1, g2⟩ := loop lv 0 fu fu (by omega) (by omega) (by omega)
  refine ⟨v, S3, g1, ?_, hS3⟩
  unfold F_X12_seesOne
  rw [show F_X12_lay fu (nI m) 0 S = some S1 from e1]
  simp only [Option.bind_some]
  rw [show F_X12_seesOne_b9 fu (nI t) (nI m) (nI k) fu 0 S1 = _ from e2, p2 (by omega), e3]
  exact g2
theorem sees_ok {M S : xM} {tn : Nat} (hfu : 70000 ≤ fu) (hW : TW fu lv on mn sn tn M R) (hS : xfr wrT R S) (ht : t < tn) (hm : m < mn) : ∃ v S', F_X10_seenBy fu (nI t) (nI m) M = some (v, M) ∧ F_X12_seesOf fu (nI t) (nI m) S = some (v, S') ∧ xfr wrT R S' := by
  have hF := hW.1
  obtain ⟨h8, e15, e27⟩ := hF.nf hm
  have hm6 := hF.m6 hm
  have loop : ∀ q k n1 n2 (acc : Int32) S, k + q = nF R m → q < n1 → q < n2 → xfr wrT R S → ∃ v S', F_X10_seenBy_b5 fu (nI t) (nI m) n1 acc (nI k) M = some (v, M) ∧ F_X12_seesOf_b5 fu (nI t) (nI m) n2 acc (nI k) S = some (v, S') ∧ xfr wrT R S' := by
    intro q
    induction q with
    | zero =>
      intro k n1 n2 acc S hk h1 h2 hS
      obtain ⟨n1, rfl⟩ : ∃ z, n1 = z + 1 := ⟨n1 - 1, by omega⟩
      obtain ⟨n2, rfl⟩ : ∃ z, n2 = z + 1 := ⟨n2 - 1, by omega⟩
      rw [F_X10_seenBy_b5, F_X12_seesOf_b5, P_X5_faultsOf, at_ok hm6 (by decide), e27, if_neg (idx_no hm6 (by decide)), nI_clamp (by omega), hS 15 m rfl, e15, if_pos (nI_le (by omega) (by omega)), if_pos (nI_le (by omega) (by omega))]
      exact ⟨acc, S, rfl, rfl, hS⟩
    | succ q ih =>
      intro k n1 n2 acc S hk h1 h2 hS
      obtain ⟨n1, rfl⟩ : ∃ z, n1 = z + 1 := ⟨n1 - 1, by omega⟩
      obtain ⟨n2, rfl⟩ : ∃ z, n2 = z + 1 := ⟨n2 - 1, by omega⟩
      obtain ⟨v, S1, a1, a2, hS1⟩ := sees_one hfu hW hS ht hm (show k < nF R m by omega)
      have I := fun acc => ih (k + 1) n1 n2 acc S1 (by omega) (by omega) (by omega) hS1
      rw [F_X10_seenBy_b5, F_X12_seesOf_b5, P_X5_faultsOf, at_ok hm6 (by decide), e27, if_neg (idx_no hm6 (by decide)), nI_clamp (by omega), hS 15 m rfl, e15, if_neg (show ¬ nI (nF R m) ≤ nI k from nI_ge (by omega) (by omega)), if_neg (show ¬ nI (nF R m) ≤ nI k from nI_ge (by omega) (by omega)), a1, a2]
      simp only [Option.bind_some, F_X10_seenBy_b37, F_X12_seesOf_b36, add1, or0, bit_eq (show k ≤ 30 by omega)]
      by_cases z : v = 0
      · rw [if_pos z, if_pos z]
        exact I acc
      · rw [if_neg z, if_neg z]
        exact I _
  exact loop (nF R m) 0 fu fu 0 S (by omega) (by omega) (by omega) hS
theorem x00T (R : xM) : xfr wrT R (xset R 0 0 0) := fun k j h => by
  unfold xset
  rw [if_neg]
  rintro ⟨rfl, rfl⟩
  exact absurd h (by decide)
theorem op_sees {tn : Nat} (hfu : 70000 ≤ fu) (x1 x2 : Int32) (hW : TW fu lv on mn sn tn C R) : ∃ v C' R', F_X11_sees fu x1 x2 C = some (v, C') ∧ F_X12_sees fu x1 x2 R = some (v, R') := by
  unfold F_X11_sees F_X12_sees P_X10_isTest
  rw [hW.2.2.2.2.1, show (xset R 0 0 0) 0 49 = nI tn from hW.2.2.2.2.2.1, isIn_eq (N := C), hW.1.meq]
  have htn := hW.2.2.2.2.2.2
  by_cases h1 : P_X1_within x1 0 (nI tn - 1) C = 0
  · rw [if_pos h1, if_pos h1]
    exact ⟨-1, _, _, rfl, rfl⟩
  obtain ⟨t, ht, rfl⟩ := Classical.not_not.mp fun z => h1 ((withinm1 (by omega)).mpr z)
  rw [if_neg h1, if_neg h1]
  by_cases h2 : P_X5_isMachine x2 C = 0
  · rw [if_pos h2, if_pos h2]
    exact ⟨-1, _, _, rfl, rfl⟩
  obtain ⟨m, hm, rfl⟩ := Classical.not_not.mp fun z => h2 (hW.1.mc.mpr z)
  obtain ⟨v, S', a1, a2, _⟩ := sees_ok hfu hW (x00T R) ht hm
  rw [if_neg h2, if_neg h2, a1, a2]
  exact ⟨v, _, _, rfl, rfl⟩
end TRIAL3
