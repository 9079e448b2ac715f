/-! THE START: both sides alike behind the constructors -/
section STARTR
theorem clamp216 : ∀ v : Int32, ∃ n : Nat, 2 ≤ n ∧ n ≤ 16 ∧ jmax 2 (jmin 16 v) = nI n := by
  intro v
  by_cases h0 : v < 0
  · refine ⟨2, by decide, by decide, ?_⟩
    have e1 : jmin 16 v = v := by
      unfold jmin
      rw [if_pos (Int32.lt_trans h0 (by decide))]
    rw [e1]
    unfold jmax
    rw [if_neg (fun z => Int32.lt_irrefl (Int32.lt_trans (Int32.lt_trans (by decide : (0 : Int32) < 2) z) h0))]
    rfl
  · obtain ⟨j, hj, rfl⟩ := nI_of h0
    by_cases h : j ≤ 16
    · have : ∀ j, j ≤ 16 → 2 ≤ max 2 j ∧ max 2 j ≤ 16 ∧ jmax 2 (jmin 16 (nI j)) = nI (max 2 j) := by decide +kernel
      exact ⟨max 2 j, this j h⟩
    · refine ⟨16, by decide, by decide, ?_⟩
      have e1 : jmin 16 (nI j) = 16 := by
        unfold jmin
        rw [if_neg (show ¬ nI j < 16 from nI_nlt (a := j) (b := 16) (by omega) hj)]
      rw [e1]
      decide
theorem m13 : ∀ m, m < 6 → M0M 0 13 m = -1 ∧ M0M 0 14 m = 1 := by decide +kernel
theorem m3 : ∀ l, l < 16 → M0M 0 3 l = -1 := by decide +kernel
theorem st_ok (x : Int32) : xRel (M0C x) (M0M x) := by
  obtain ⟨lv, l1, l2, e⟩ := clamp216 x
  have hC : M0C x 1 0 = nI lv := e
  have hR : M0M x 0 1 = nI lv := e
  exact xRel.mk
    (hN := ⟨lv, 0, 0, 0, 0, 0, 0, 0, ⟨l1, l2, by decide, by decide, by decide, by decide, by decide, by decide, by decide⟩, ⟨hC, rfl, rfl, rfl, rfl, rfl, rfl, rfl⟩, ⟨hR, rfl, rfl, rfl, rfl, rfl, rfl, rfl⟩⟩)
    (hI := ⟨1, by decide, rfl, rfl⟩)
    (hA := fun l _ => ⟨rfl, rfl⟩)
    (hS := ⟨fun k _ => ⟨rfl, 0, by decide, rfl⟩, fun k _ => ⟨0, by decide, rfl, rfl⟩, fun k _ => ⟨rfl, 0, by decide, rfl⟩⟩)
    (hE := ⟨fun m _ => ⟨0, by decide, rfl, rfl⟩, fun k _ => ⟨rfl, rfl, rfl, 0, by decide, rfl⟩⟩)
    (hC := ⟨0, by decide, rfl, fun m h => absurd h (by omega), fun m _ h6 => m13 m h6⟩)
    (hX := ⟨fun t _ => ⟨rfl, rfl⟩, fun t _ => ⟨0, by decide, rfl⟩, fun t _ => ⟨0, by decide, rfl⟩⟩)
    (hP := ⟨fun t _ => ⟨rfl, rfl⟩, fun t _ => ⟨0, by decide, rfl⟩, fun t _ => ⟨0, by decide, rfl⟩⟩)
    (hO := ⟨fun t _ => ⟨rfl, rfl⟩, fun t _ => ⟨0, by decide, rfl⟩, fun t _ => ⟨0, by decide, rfl⟩⟩)
    (hF := ⟨lv, 0, l2, by decide, hR, rfl, fun l hl => Or.inl ⟨m3 l hl, tb_0 l, fun o ho => absurd ho (by omega)⟩, ⟨0, Nat.two_pow_pos _, rfl⟩, fun o ho => absurd ho (by omega)⟩)
    (hB := ⟨lv, 0, 0, l2, by decide, by decide, hR, rfl, rfl, Or.inl rfl⟩)
    (hQ := ⟨fun m _ => ⟨0, by decide, rfl, rfl⟩, fun k _ => ⟨rfl, rfl, rfl⟩, lv, l2, hR, fun m n f _ hn h8 hf => by
      have z : nI 0 = nI n := hn
      have := (nI_eq (by decide) (by omega)).mp z
      omega⟩)
    (hT := fun k _ => ⟨0, by decide, rfl, rfl⟩)
    (hY := ⟨0, 0, ⟨by decide, rfl, rfl, ⟨fun k _ => ⟨0, by decide, rfl, rfl⟩, fun l _ => ⟨0, by decide, rfl, rfl⟩⟩, fun l h => absurd h (by omega), fun k _ => ⟨rfl, 0, by decide, rfl⟩⟩, by decide, rfl, rfl, Or.inl rfl, fun m h => absurd h (by omega)⟩)
    (hZ := ⟨0, by decide, rfl, fun o _ _ => rfl⟩)
    (hM := ⟨0, by decide, rfl, rfl, fun n h => absurd h (by omega), fun p h _ _ => ⟨0, by decide, rfl, rfl, fun i hi => absurd hi (by omega)⟩, fun p h n _ _ hn => absurd hn (by omega)⟩)
theorem whole_start {p : Program} {e : Env} {s : State} {m : MethodId} {below : List Frame} {meth : Method} {c : Code} (l : Launch) (_hflags : l.flags = flags0) {b L : Nat} {xs : Nat → Int32} (hL : L ≤ 3073) (C0 : lw_At p s m meth c b L xs) : W p l e room_1 s m #[Value.ref b] below meth c s.heap [] 0 0 (lw_Z below #[Value.ref b] s) (entryFrame m ([Value.ref b] : List Value).toArray 4) := whole_open st_ok ops_ok l hL C0
end STARTR
