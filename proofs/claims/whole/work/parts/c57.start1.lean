/-- where the cells lie, and what they hold, behind the constructor -/
def adC (a : Nat) (u sa : Nat → Nat) : Nat → Nat := fun k => if k < 1000 then ([a, u 0, u 7, u 9, u 12, u 15, u 27, u 34, u 39, u 43, u 50, u 1, u 2, u 3, u 4, u 5, u 6, u 8, u 10, u 11, u 13, u 14, u 16, u 17, u 18, u 19, u 20, u 21, u 22, u 23, u 24, u 25, u 26, u 28, u 29, u 30, u 31, u 32, u 33, u 35, u 36, u 37, u 38, u 40, u 41, u 42, u 44, u 45, u 46, u 47, u 48, u 49, u 51, u 52, u 53, u 54] : List Nat).getD k 0 else sa k
def M0C (x1 : Int32) : xM := fun k => match k with
  | 0 => fun j => ([0, 0, 0, 0, 0, 0, 0, 0, 0] : List Int32).getD j 0
  | 1 => fun j => ([(P_X1_nearest x1 (2) (16) (fun _ _ => 0)), 0, 0, 0, 0, 0, 0, 0, (1), 0, 0, 0, 0, 0, 0] : List Int32).getD j 0
  | 2 => fun j => ([0, 0] : List Int32).getD j 0
  | 3 => fun j => ([0, (-1), 0, 0, 0] : List Int32).getD j 0
  | 4 => fun j => ([(-1), 0, 0, 0, 0] : List Int32).getD j 0
  | 5 => fun j => ([0, 0, 0, 0, 0, 0, 0, 0, 0, 0, 0, 0, 0] : List Int32).getD j 0
  | 6 => fun j => ([0, 0, 0, 0, 0, 0, 0, 0, 0, 0] : List Int32).getD j 0
  | 7 => fun j => ([0, 0, 0, 0, 0, 0, 0] : List Int32).getD j 0
  | 8 => fun j => ([0, 0, 0, 0, 0, 0] : List Int32).getD j 0
  | 9 => fun j => ([0, (1), 0, 0, 0, 0, 0, 0] : List Int32).getD j 0
  | 10 => fun j => ([0, 0, 0, 0, 0, 0] : List Int32).getD j 0
  | 11 => (fun _ => 0)
  | 12 => (fun _ => 0)
  | 13 => (fun _ => 0)
  | 14 => (fun _ => 0)
  | 15 => (fun _ => 0)
  | 16 => (fun _ => 0)
  | 17 => (fun _ => 0)
  | 18 => (fun _ => 0)
  | 19 => (fun _ => 0)
  | 20 => (fun _ => 0)
  | 21 => (fun _ => 0)
  | 22 => (fun _ => 0)
  | 23 => (fun _ => 0)
  | 24 => (fun _ => 0)
  | 25 => (fun _ => 0)
  | 26 => (fun _ => 0)
  | 27 => (fun _ => 0)
  | 28 => (fun _ => 0)
  | 29 => (fun _ => 0)
  | 30 => (fun _ => 0)
  | 31 => (fun _ => 0)
  | 32 => (fun _ => 0)
  | 33 => (fun _ => 0)
  | 34 => (fun _ => 0)
  | 35 => (fun _ => 0)
  | 36 => (fun _ => 0)
  | 37 => (fun _ => 0)
  | 38 => (fun _ => 0)
  | 39 => (fun _ => 0)
  | 40 => (fun _ => 0)
  | 41 => (fun _ => 0)
  | 42 => (fun _ => 0)
  | 43 => (fun _ => 0)
  | 44 => (fun _ => 0)
  | 45 => (fun _ => 0)
  | 46 => (fun _ => 0)
  | 47 => (fun _ => 0)
  | 48 => (fun _ => 0)
  | 49 => (fun _ => 0)
  | 50 => (fun _ => 0)
  | 51 => (fun _ => 0)
  | 52 => (fun _ => 0)
  | 53 => (fun _ => 0)
  | 54 => (fun _ => 0)
  | 55 => (fun _ => 0)
  | _ => fun _ => 0
def xFsf (ad : Nat → Nat) : List Nat → (Nat → Int32) → Nat → List Value
  | [], _, _ => []
  | kd :: t, f, j => xF ad kd (f j) :: xFsf ad t f (j + 1)
theorem xFsf_at (ad : Nat → Nat) (f : Nat → Int32) : ∀ (ks : List Nat) (j i : Nat), (xFsf ad ks f j)[i]? = (ks[i]?).map (fun kd => xF ad kd (f (j + i)))
  | [], j, i => by simp [xFsf]
  | kd :: t, j, 0 => by simp [xFsf]
  | kd :: t, j, i + 1 => by
    rw [xFsf, List.getElem?_cons_succ, xFsf_at ad f t (j + 1) i, List.getElem?_cons_succ, show j + 1 + i = j + (i + 1) by omega]
theorem xFs_f (ad : Nat → Nat) (ks : List Nat) (f : Nat → Int32) : xFs ad ks f = xFsf ad ks f 0 := by
  apply List.ext_getElem?
  intro i
  rw [xFsf_at]
  simp [xFs, List.getElem?_mapIdx]
def permC : List Nat := [0, 1, 8, 10, 13, 16, 28, 35, 40, 44, 51, 2, 3, 4, 5, 6, 7, 9, 11, 12, 14, 15, 17, 18, 19, 20, 21, 22, 23, 24, 25, 26, 27, 29, 30, 31, 32, 33, 34, 36, 37, 38, 39, 41, 42, 43, 45, 46, 47, 48, 49, 50, 52, 53, 54, 55]
def lstC (cA : Nat → ClassId) (a : Nat) (u sa : Nat → Nat) (x1 : Int32) : va_W := [(a, .inr (10, [.ref (u 0), .ref (u 7), .ref (u 9), .ref (u 15), .ref (u 27), .ref (u 34), .ref (u 39), .ref (u 43), .ref (u 50)])), ((u 0), .inr (0, [.int (P_X1_nearest x1 (2) (16) (fun _ _ => 0)), .int 0, .int 0, .ref (u 1), .ref (u 2), .ref (u 3), .ref (u 4), .int 0, .int (1), .int 0, .int 0, .int 0, .int 0, .ref (u 5), .ref (u 6)])), ((u 1), .inl (cA 0, 6, .inl (fun _ => 0))), ((u 2), .inl (cA 0, 6, .inl (fun _ => 0))), ((u 3), .inl (cA 0, 10, .inl (fun _ => 0))), ((u 4), .inl (cA 0, 10, .inl (fun _ => 0))), ((u 5), .inl (cA 0, 1024, .inl (fun _ => 0))), ((u 6), .inl (cA 0, 16, .inl (fun _ => 0))), ((u 7), .inr (8, [.ref (u 8), .int 0])), ((u 8), .inl (cA 0, 120, .inl (fun _ => 0))), ((u 9), .inr (3, [.int 0, .int (-1), .ref (u 10), .ref (u 11), .ref (u 12)])), ((u 10), .inl (cA 0, 480, .inl (fun _ => 0))), ((u 11), .inl (cA 0, 4, .inl (fun _ => 0))), ((u 12), .inr (2, [.int (-1), .ref (u 13), .ref (u 14), .int 0, .int 0])), ((u 13), .inl (cA 0, 120, .inl (fun _ => 0))), ((u 14), .inl (cA 0, 5, .inl (fun _ => 0))), ((u 15), .inr (4, [.ref (u 0), .int 0, .ref (u 16), .ref (u 17), .ref (u 18), .ref (u 19), .ref (u 20), .ref (u 21), .ref (u 22), .ref (u 23), .ref (u 24), .ref (u 25), .ref (u 26)])), ((u 16), .inl (cA 0, 30, .inl (fun _ => 0))), ((u 17), .inl (cA 0, 6, .inl (fun _ => 0))), ((u 18), .inl (cA 0, 6, .inl (fun _ => 0))), ((u 19), .inl (cA 0, 6, .inl (fun _ => 0))), ((u 20), .inl (cA 0, 96, .inl (fun _ => 0))), ((u 21), .inl (cA 0, 6, .inl (fun _ => 0))), ((u 22), .inl (cA 0, 48, .inl (fun _ => 0))), ((u 23), .inl (cA 0, 48, .inl (fun _ => 0))), ((u 24), .inl (cA 0, 48, .inl (fun _ => 0))), ((u 25), .inl (cA 0, 96, .inl (fun _ => 0))), ((u 26), .inl (cA 0, 768, .inl (fun _ => 0))), ((u 27), .inr (1, [.ref (u 0), .ref (u 15), .ref (u 28), .ref (u 29), .ref (u 30), .ref (u 31), .ref (u 32), .ref (u 33), .int 0, .int 0])), ((u 28), .inl (cA 0, 16, .inl (fun _ => 0))), ((u 29), .inl (cA 0, 16, .inl (fun _ => 0))), ((u 30), .inl (cA 0, 16, .inl (fun _ => 0))), ((u 31), .inl (cA 0, 16, .inl (fun _ => 0))), ((u 32), .inl (cA 0, 16, .inl (fun _ => 0))), ((u 33), .inl (cA 0, 16, .inl (fun _ => 0))), ((u 34), .inr (7, [.ref (u 0), .ref (u 15), .ref (u 27), .ref (u 35), .ref (u 36), .ref (u 37), .ref (u 38)])), ((u 35), .inl (cA 0, 1536, .inl (fun _ => 0))), ((u 36), .inl (cA 0, 1536, .inl (fun _ => 0))), ((u 37), .inl (cA 0, 16, .inl (fun _ => 0))), ((u 38), .inl (cA 0, 16, .inl (fun _ => 0))), ((u 39), .inr (9, [.ref (u 0), .ref (u 15), .int 0, .ref (u 40), .ref (u 41), .ref (u 42)])), ((u 40), .inl (cA 0, 8, .inl (fun _ => 0))), ((u 41), .inl (cA 0, 8, .inl (fun _ => 0))), ((u 42), .inl (cA 0, 8, .inl (fun _ => 0))), ((u 43), .inr (5, [.int 0, .int (1), .ref (u 44), .ref (u 45), .ref (u 46), .ref (u 47), .ref (u 48), .ref (u 49)])), ((u 44), .inl (cA 0, 64, .inl (fun _ => 0))), ((u 45), .inl (cA 0, 8, .inl (fun _ => 0))), ((u 46), .inl (cA 0, 960, .inl (fun _ => 0))), ((u 47), .inl (cA 0, 120, .inl (fun _ => 0))), ((u 48), .inl (cA 0, 960, .inl (fun _ => 0))), ((u 49), .inl (cA 0, 9, .inl (fun _ => 0))), ((u 50), .inr (6, [.ref (u 51), .ref (u 52), .ref (u 53), .ref (u 54), .int 0, .int 0])), ((u 51), .inl (cA 0, 6, .inl (fun _ => 0))), ((u 52), .inl (cA 0, 120, .inl (fun _ => 0))), ((u 53), .inl (cA 0, 120, .inl (fun _ => 0))), ((u 54), .inl (cA 0, 120, .inl (fun _ => 0)))]
set_option maxRecDepth 100000 in
theorem finC_0 (cA : Nat → ClassId) (a : Nat) (u sa : Nat → Nat) (x1 : Int32) : (lstC cA a u sa x1)[0]? = some (adC a u sa 0, xE cA (adC a u sa) (.inr (10, [3, 4, 5, 7, 8, 9, 10, 11, 12])) (M0C x1 0)) := by
  show _ = some (_, Sum.inr (10, xFs _ _ _))
  rw [xFs_f]
  rfl
set_option maxRecDepth 100000 in
theorem finC_1 (cA : Nat → ClassId) (a : Nat) (u sa : Nat → Nat) (x1 : Int32) : (lstC cA a u sa x1)[1]? = some (adC a u sa 1, xE cA (adC a u sa) (.inr (0, [0, 0, 0, 13, 14, 15, 16, 0, 0, 0, 0, 0, 0, 17, 18])) (M0C x1 1)) := by
  show _ = some (_, Sum.inr (0, xFs _ _ _))
  rw [xFs_f]
  rfl
set_option maxRecDepth 100000 in
theorem finC_2 (cA : Nat → ClassId) (a : Nat) (u sa : Nat → Nat) (x1 : Int32) : (lstC cA a u sa x1)[8]? = some (adC a u sa 2, xE cA (adC a u sa) (.inr (8, [19, 0])) (M0C x1 2)) := by
  show _ = some (_, Sum.inr (8, xFs _ _ _))
  rw [xFs_f]
  rfl
set_option maxRecDepth 100000 in
theorem finC_3 (cA : Nat → ClassId) (a : Nat) (u sa : Nat → Nat) (x1 : Int32) : (lstC cA a u sa x1)[10]? = some (adC a u sa 3, xE cA (adC a u sa) (.inr (3, [0, 0, 20, 21, 6])) (M0C x1 3)) := by
  show _ = some (_, Sum.inr (3, xFs _ _ _))
  rw [xFs_f]
  rfl
set_option maxRecDepth 100000 in
theorem finC_4 (cA : Nat → ClassId) (a : Nat) (u sa : Nat → Nat) (x1 : Int32) : (lstC cA a u sa x1)[13]? = some (adC a u sa 4, xE cA (adC a u sa) (.inr (2, [0, 22, 23, 0, 0])) (M0C x1 4)) := by
  show _ = some (_, Sum.inr (2, xFs _ _ _))
  rw [xFs_f]
  rfl
set_option maxRecDepth 100000 in
theorem finC_5 (cA : Nat → ClassId) (a : Nat) (u sa : Nat → Nat) (x1 : Int32) : (lstC cA a u sa x1)[16]? = some (adC a u sa 5, xE cA (adC a u sa) (.inr (4, [3, 0, 24, 25, 26, 27, 28, 29, 30, 31, 32, 33, 34])) (M0C x1 5)) := by
  show _ = some (_, Sum.inr (4, xFs _ _ _))
  rw [xFs_f]
  rfl
set_option maxRecDepth 100000 in
theorem finC_6 (cA : Nat → ClassId) (a : Nat) (u sa : Nat → Nat) (x1 : Int32) : (lstC cA a u sa x1)[28]? = some (adC a u sa 6, xE cA (adC a u sa) (.inr (1, [3, 7, 35, 36, 37, 38, 39, 40, 0, 0])) (M0C x1 6)) := by
  show _ = some (_, Sum.inr (1, xFs _ _ _))
  rw [xFs_f]
  rfl
set_option maxRecDepth 100000 in
theorem finC_7 (cA : Nat → ClassId) (a : Nat) (u sa : Nat → Nat) (x1 : Int32) : (lstC cA a u sa x1)[35]? = some (adC a u sa 7, xE cA (adC a u sa) (.inr (7, [3, 7, 8, 41, 42, 43, 44])) (M0C x1 7)) := by
  show _ = some (_, Sum.inr (7, xFs _ _ _))
  rw [xFs_f]
  rfl
set_option maxRecDepth 100000 in
theorem finC_8 (cA : Nat → ClassId) (a : Nat) (u sa : Nat → Nat) (x1 : Int32) : (lstC cA a u sa x1)[40]? = some (adC a u sa 8, xE cA (adC a u sa) (.inr (9, [3, 7, 0, 45, 46, 47])) (M0C x1 8)) := by
  show _ = some (_, Sum.inr (9, xFs _ _ _))
  rw [xFs_f]
  rfl
set_option maxRecDepth 100000 in
theorem finC_9 (cA : Nat → ClassId) (a : Nat) (u sa : Nat → Nat) (x1 : Int32) : (lstC cA a u sa x1)[44]? = some (adC a u sa 9, xE cA (adC a u sa) (.inr (5, [0, 0, 48, 49, 50, 51, 52, 53])) (M0C x1 9)) := by
  show _ = some (_, Sum.inr (5, xFs _ _ _))
  rw [xFs_f]
  rfl
set_option maxRecDepth 100000 in
theorem finC_10 (cA : Nat → ClassId) (a : Nat) (u sa : Nat → Nat) (x1 : Int32) : (lstC cA a u sa x1)[51]? = some (adC a u sa 10, xE cA (adC a u sa) (.inr (6, [54, 55, 56, 57, 0, 0])) (M0C x1 10)) := by
  show _ = some (_, Sum.inr (6, xFs _ _ _))
  rw [xFs_f]
  rfl
set_option maxRecDepth 100000 in
theorem finC_11 (cA : Nat → ClassId) (a : Nat) (u sa : Nat → Nat) (x1 : Int32) : (lstC cA a u sa x1)[2]? = some (adC a u sa 11, xE cA (adC a u sa) (.inl (0, 6)) (M0C x1 11)) := rfl
set_option maxRecDepth 100000 in
theorem finC_12 (cA : Nat → ClassId) (a : Nat) (u sa : Nat → Nat) (x1 : Int32) : (lstC cA a u sa x1)[3]? = some (adC a u sa 12, xE cA (adC a u sa) (.inl (0, 6)) (M0C x1 12)) := rfl
set_option maxRecDepth 100000 in
theorem finC_13 (cA : Nat → ClassId) (a : Nat) (u sa : Nat → Nat) (x1 : Int32) : (lstC cA a u sa x1)[4]? = some (adC a u sa 13, xE cA (adC a u sa) (.inl (0, 10)) (M0C x1 13)) := rfl
set_option maxRecDepth 100000 in
theorem finC_14 (cA : Nat → ClassId) (a : Nat) (u sa : Nat → Nat) (x1 : Int32) : (lstC cA a u sa x1)[5]? = some (adC a u sa 14, xE cA (adC a u sa) (.inl (0, 10)) (M0C x1 14)) := rfl
set_option maxRecDepth 100000 in
theorem finC_15 (cA : Nat → ClassId) (a : Nat) (u sa : Nat → Nat) (x1 : Int32) : (lstC cA a u sa x1)[6]? = some (adC a u sa 15, xE cA (adC a u sa) (.inl (0, 1024)) (M0C x1 15)) := rfl
set_option maxRecDepth 100000 in
theorem finC_16 (cA : Nat → ClassId) (a : Nat) (u sa : Nat → Nat) (x1 : Int32) : (lstC cA a u sa x1)[7]? = some (adC a u sa 16, xE cA (adC a u sa) (.inl (0, 16)) (M0C x1 16)) := rfl
set_option maxRecDepth 100000 in
theorem finC_17 (cA : Nat → ClassId) (a : Nat) (u sa : Nat → Nat) (x1 : Int32) : (lstC cA a u sa x1)[9]? = some (adC a u sa 17, xE cA (adC a u sa) (.inl (0, 120)) (M0C x1 17)) := rfl
set_option maxRecDepth 100000 in
theorem finC_18 (cA : Nat → ClassId) (a : Nat) (u sa : Nat → Nat) (x1 : Int32) : (lstC cA a u sa x1)[11]? = some (adC a u sa 18, xE cA (adC a u sa) (.inl (0, 480)) (M0C x1 18)) := rfl
set_option maxRecDepth 100000 in
theorem finC_19 (cA : Nat → ClassId) (a : Nat) (u sa : Nat → Nat) (x1 : Int32) : (lstC cA a u sa x1)[12]? = some (adC a u sa 19, xE cA (adC a u sa) (.inl (0, 4)) (M0C x1 19)) := rfl
set_option maxRecDepth 100000 in
theorem finC_20 (cA : Nat → ClassId) (a : Nat) (u sa : Nat → Nat) (x1 : Int32) : (lstC cA a u sa x1)[14]? = some (adC a u sa 20, xE cA (adC a u sa) (.inl (0, 120)) (M0C x1 20)) := rfl
set_option maxRecDepth 100000 in
theorem finC_21 (cA : Nat → ClassId) (a : Nat) (u sa : Nat → Nat) (x1 : Int32) : (lstC cA a u sa x1)[15]? = some (adC a u sa 21, xE cA (adC a u sa) (.inl (0, 5)) (M0C x1 21)) := rfl
set_option maxRecDepth 100000 in
theorem finC_22 (cA : Nat → ClassId) (a : Nat) (u sa : Nat → Nat) (x1 : Int32) : (lstC cA a u sa x1)[17]? = some (adC a u sa 22, xE cA (adC a u sa) (.inl (0, 30)) (M0C x1 22)) := rfl
set_option maxRecDepth 100000 in
theorem finC_23 (cA : Nat → ClassId) (a : Nat) (u sa : Nat → Nat) (x1 : Int32) : (lstC cA a u sa x1)[18]? = some (adC a u sa 23, xE cA (adC a u sa) (.inl (0, 6)) (M0C x1 23)) := rfl
set_option maxRecDepth 100000 in
theorem finC_24 (cA : Nat → ClassId) (a : Nat) (u sa : Nat → Nat) (x1 : Int32) : (lstC cA a u sa x1)[19]? = some (adC a u sa 24, xE cA (adC a u sa) (.inl (0, 6)) (M0C x1 24)) := rfl
set_option maxRecDepth 100000 in
theorem finC_25 (cA : Nat → ClassId) (a : Nat) (u sa : Nat → Nat) (x1 : Int32) : (lstC cA a u sa x1)[20]? = some (adC a u sa 25, xE cA (adC a u sa) (.inl (0, 6)) (M0C x1 25)) := rfl
set_option maxRecDepth 100000 in
theorem finC_26 (cA : Nat → ClassId) (a : Nat) (u sa : Nat → Nat) (x1 : Int32) : (lstC cA a u sa x1)[21]? = some (adC a u sa 26, xE cA (adC a u sa) (.inl (0, 96)) (M0C x1 26)) := rfl
set_option maxRecDepth 100000 in
theorem finC_27 (cA : Nat → ClassId) (a : Nat) (u sa : Nat → Nat) (x1 : Int32) : (lstC cA a u sa x1)[22]? = some (adC a u sa 27, xE cA (adC a u sa) (.inl (0, 6)) (M0C x1 27)) := rfl
set_option maxRecDepth 100000 in
theorem finC_28 (cA : Nat → ClassId) (a : Nat) (u sa : Nat → Nat) (x1 : Int32) : (lstC cA a u sa x1)[23]? = some (adC a u sa 28, xE cA (adC a u sa) (.inl (0, 48)) (M0C x1 28)) := rfl
set_option maxRecDepth 100000 in
theorem finC_29 (cA : Nat → ClassId) (a : Nat) (u sa : Nat → Nat) (x1 : Int32) : (lstC cA a u sa x1)[24]? = some (adC a u sa 29, xE cA (adC a u sa) (.inl (0, 48)) (M0C x1 29)) := rfl
set_option maxRecDepth 100000 in
theorem finC_30 (cA : Nat → ClassId) (a : Nat) (u sa : Nat → Nat) (x1 : Int32) : (lstC cA a u sa x1)[25]? = some (adC a u sa 30, xE cA (adC a u sa) (.inl (0, 48)) (M0C x1 30)) := rfl
set_option maxRecDepth 100000 in
theorem finC_31 (cA : Nat → ClassId) (a : Nat) (u sa : Nat → Nat) (x1 : Int32) : (lstC cA a u sa x1)[26]? = some (adC a u sa 31, xE cA (adC a u sa) (.inl (0, 96)) (M0C x1 31)) := rfl
set_option maxRecDepth 100000 in
theorem finC_32 (cA : Nat → ClassId) (a : Nat) (u sa : Nat → Nat) (x1 : Int32) : (lstC cA a u sa x1)[27]? = some (adC a u sa 32, xE cA (adC a u sa) (.inl (0, 768)) (M0C x1 32)) := rfl
set_option maxRecDepth 100000 in
theorem finC_33 (cA : Nat → ClassId) (a : Nat) (u sa : Nat → Nat) (x1 : Int32) : (lstC cA a u sa x1)[29]? = some (adC a u sa 33, xE cA (adC a u sa) (.inl (0, 16)) (M0C x1 33)) := rfl
set_option maxRecDepth 100000 in
theorem finC_34 (cA : Nat → ClassId) (a : Nat) (u sa : Nat → Nat) (x1 : Int32) : (lstC cA a u sa x1)[30]? = some (adC a u sa 34, xE cA (adC a u sa) (.inl (0, 16)) (M0C x1 34)) := rfl
set_option maxRecDepth 100000 in
theorem finC_35 (cA : Nat → ClassId) (a : Nat) (u sa : Nat → Nat) (x1 : Int32) : (lstC cA a u sa x1)[31]? = some (adC a u sa 35, xE cA (adC a u sa) (.inl (0, 16)) (M0C x1 35)) := rfl
set_option maxRecDepth 100000 in
theorem finC_36 (cA : Nat → ClassId) (a : Nat) (u sa : Nat → Nat) (x1 : Int32) : (lstC cA a u sa x1)[32]? = some (adC a u sa 36, xE cA (adC a u sa) (.inl (0, 16)) (M0C x1 36)) := rfl
set_option maxRecDepth 100000 in
theorem finC_37 (cA : Nat → ClassId) (a : Nat) (u sa : Nat → Nat) (x1 : Int32) : (lstC cA a u sa x1)[33]? = some (adC a u sa 37, xE cA (adC a u sa) (.inl (0, 16)) (M0C x1 37)) := rfl
set_option maxRecDepth 100000 in
theorem finC_38 (cA : Nat → ClassId) (a : Nat) (u sa : Nat → Nat) (x1 : Int32) : (lstC cA a u sa x1)[34]? = some (adC a u sa 38, xE cA (adC a u sa) (.inl (0, 16)) (M0C x1 38)) := rfl
set_option maxRecDepth 100000 in
theorem finC_39 (cA : Nat → ClassId) (a : Nat) (u sa : Nat → Nat) (x1 : Int32) : (lstC cA a u sa x1)[36]? = some (adC a u sa 39, xE cA (adC a u sa) (.inl (0, 1536)) (M0C x1 39)) := rfl
set_option maxRecDepth 100000 in
theorem finC_40 (cA : Nat → ClassId) (a : Nat) (u sa : Nat → Nat) (x1 : Int32) : (lstC cA a u sa x1)[37]? = some (adC a u sa 40, xE cA (adC a u sa) (.inl (0, 1536)) (M0C x1 40)) := rfl
set_option maxRecDepth 100000 in
theorem finC_41 (cA : Nat → ClassId) (a : Nat) (u sa : Nat → Nat) (x1 : Int32) : (lstC cA a u sa x1)[38]? = some (adC a u sa 41, xE cA (adC a u sa) (.inl (0, 16)) (M0C x1 41)) := rfl
set_option maxRecDepth 100000 in
theorem finC_42 (cA : Nat → ClassId) (a : Nat) (u sa : Nat → Nat) (x1 : Int32) : (lstC cA a u sa x1)[39]? = some (adC a u sa 42, xE cA (adC a u sa) (.inl (0, 16)) (M0C x1 42)) := rfl
set_option maxRecDepth 100000 in
theorem finC_43 (cA : Nat → ClassId) (a : Nat) (u sa : Nat → Nat) (x1 : Int32) : (lstC cA a u sa x1)[41]? = some (adC a u sa 43, xE cA (adC a u sa) (.inl (0, 8)) (M0C x1 43)) := rfl
set_option maxRecDepth 100000 in
theorem finC_44 (cA : Nat → ClassId) (a : Nat) (u sa : Nat → Nat) (x1 : Int32) : (lstC cA a u sa x1)[42]? = some (adC a u sa 44, xE cA (adC a u sa) (.inl (0, 8)) (M0C x1 44)) := rfl
set_option maxRecDepth 100000 in
theorem finC_45 (cA : Nat → ClassId) (a : Nat) (u sa : Nat → Nat) (x1 : Int32) : (lstC cA a u sa x1)[43]? = some (adC a u sa 45, xE cA (adC a u sa) (.inl (0, 8)) (M0C x1 45)) := rfl
set_option maxRecDepth 100000 in
theorem finC_46 (cA : Nat → ClassId) (a : Nat) (u sa : Nat → Nat) (x1 : Int32) : (lstC cA a u sa x1)[45]? = some (adC a u sa 46, xE cA (adC a u sa) (.inl (0, 64)) (M0C x1 46)) := rfl
set_option maxRecDepth 100000 in
theorem finC_47 (cA : Nat → ClassId) (a : Nat) (u sa : Nat → Nat) (x1 : Int32) : (lstC cA a u sa x1)[46]? = some (adC a u sa 47, xE cA (adC a u sa) (.inl (0, 8)) (M0C x1 47)) := rfl
set_option maxRecDepth 100000 in
theorem finC_48 (cA : Nat → ClassId) (a : Nat) (u sa : Nat → Nat) (x1 : Int32) : (lstC cA a u sa x1)[47]? = some (adC a u sa 48, xE cA (adC a u sa) (.inl (0, 960)) (M0C x1 48)) := rfl
set_option maxRecDepth 100000 in
theorem finC_49 (cA : Nat → ClassId) (a : Nat) (u sa : Nat → Nat) (x1 : Int32) : (lstC cA a u sa x1)[48]? = some (adC a u sa 49, xE cA (adC a u sa) (.inl (0, 120)) (M0C x1 49)) := rfl
set_option maxRecDepth 100000 in
theorem finC_50 (cA : Nat → ClassId) (a : Nat) (u sa : Nat → Nat) (x1 : Int32) : (lstC cA a u sa x1)[49]? = some (adC a u sa 50, xE cA (adC a u sa) (.inl (0, 960)) (M0C x1 50)) := rfl
set_option maxRecDepth 100000 in
theorem finC_51 (cA : Nat → ClassId) (a : Nat) (u sa : Nat → Nat) (x1 : Int32) : (lstC cA a u sa x1)[50]? = some (adC a u sa 51, xE cA (adC a u sa) (.inl (0, 9)) (M0C x1 51)) := rfl
set_option maxRecDepth 100000 in
theorem finC_52 (cA : Nat → ClassId) (a : Nat) (u sa : Nat → Nat) (x1 : Int32) : (lstC cA a u sa x1)[52]? = some (adC a u sa 52, xE cA (adC a u sa) (.inl (0, 6)) (M0C x1 52)) := rfl
set_option maxRecDepth 100000 in
theorem finC_53 (cA : Nat → ClassId) (a : Nat) (u sa : Nat → Nat) (x1 : Int32) : (lstC cA a u sa x1)[53]? = some (adC a u sa 53, xE cA (adC a u sa) (.inl (0, 120)) (M0C x1 53)) := rfl
set_option maxRecDepth 100000 in
theorem finC_54 (cA : Nat → ClassId) (a : Nat) (u sa : Nat → Nat) (x1 : Int32) : (lstC cA a u sa x1)[54]? = some (adC a u sa 54, xE cA (adC a u sa) (.inl (0, 120)) (M0C x1 54)) := rfl
set_option maxRecDepth 100000 in
theorem finC_55 (cA : Nat → ClassId) (a : Nat) (u sa : Nat → Nat) (x1 : Int32) : (lstC cA a u sa x1)[55]? = some (adC a u sa 55, xE cA (adC a u sa) (.inl (0, 120)) (M0C x1 55)) := rfl
theorem finC_at (cA : Nat → ClassId) (a : Nat) (u sa : Nat → Nat) (x1 : Int32) : ∀ k, k < 56 → ∃ c, SC[k]? = some c ∧ (lstC cA a u sa x1)[permC.getD k 0]? = some (adC a u sa k, xE cA (adC a u sa) c (M0C x1 k)) := by
  intro k hk
  match k, hk with
  | 0, _ => exact ⟨_, rfl, finC_0 cA a u sa x1⟩
  | 1, _ => exact ⟨_, rfl, finC_1 cA a u sa x1⟩
  | 2, _ => exact ⟨_, rfl, finC_2 cA a u sa x1⟩
  | 3, _ => exact ⟨_, rfl, finC_3 cA a u sa x1⟩
  | 4, _ => exact ⟨_, rfl, finC_4 cA a u sa x1⟩
  | 5, _ => exact ⟨_, rfl, finC_5 cA a u sa x1⟩
  | 6, _ => exact ⟨_, rfl, finC_6 cA a u sa x1⟩
  | 7, _ => exact ⟨_, rfl, finC_7 cA a u sa x1⟩
  | 8, _ => exact ⟨_, rfl, finC_8 cA a u sa x1⟩
  | 9, _ => exact ⟨_, rfl, finC_9 cA a u sa x1⟩
  | 10, _ => exact ⟨_, rfl, finC_10 cA a u sa x1⟩
  | 11, _ => exact ⟨_, rfl, finC_11 cA a u sa x1⟩
  | 12, _ => exact ⟨_, rfl, finC_12 cA a u sa x1⟩
  | 13, _ => exact ⟨_, rfl, finC_13 cA a u sa x1⟩
  | 14, _ => exact ⟨_, rfl, finC_14 cA a u sa x1⟩
  | 15, _ => exact ⟨_, rfl, finC_15 cA a u sa x1⟩
  | 16, _ => exact ⟨_, rfl, finC_16 cA a u sa x1⟩
  | 17, _ => exact ⟨_, rfl, finC_17 cA a u sa x1⟩
  | 18, _ => exact ⟨_, rfl, finC_18 cA a u sa x1⟩
  | 19, _ => exact ⟨_, rfl, finC_19 cA a u sa x1⟩
  | 20, _ => exact ⟨_, rfl, finC_20 cA a u sa x1⟩
  | 21, _ => exact ⟨_, rfl, finC_21 cA a u sa x1⟩
  | 22, _ => exact ⟨_, rfl, finC_22 cA a u sa x1⟩
  | 23, _ => exact ⟨_, rfl, finC_23 cA a u sa x1⟩
  | 24, _ => exact ⟨_, rfl, finC_24 cA a u sa x1⟩
  | 25, _ => exact ⟨_, rfl, finC_25 cA a u sa x1⟩
  | 26, _ => exact ⟨_, rfl, finC_26 cA a u sa x1⟩
  | 27, _ => exact ⟨_, rfl, finC_27 cA a u sa x1⟩
  | 28, _ => exact ⟨_, rfl, finC_28 cA a u sa x1⟩
  | 29, _ => exact ⟨_, rfl, finC_29 cA a u sa x1⟩
  | 30, _ => exact ⟨_, rfl, finC_30 cA a u sa x1⟩
  | 31, _ => exact ⟨_, rfl, finC_31 cA a u sa x1⟩
  | 32, _ => exact ⟨_, rfl, finC_32 cA a u sa x1⟩
  | 33, _ => exact ⟨_, rfl, finC_33 cA a u sa x1⟩
  | 34, _ => exact ⟨_, rfl, finC_34 cA a u sa x1⟩
  | 35, _ => exact ⟨_, rfl, finC_35 cA a u sa x1⟩
  | 36, _ => exact ⟨_, rfl, finC_36 cA a u sa x1⟩
  | 37, _ => exact ⟨_, rfl, finC_37 cA a u sa x1⟩
  | 38, _ => exact ⟨_, rfl, finC_38 cA a u sa x1⟩
  | 39, _ => exact ⟨_, rfl, finC_39 cA a u sa x1⟩
  | 40, _ => exact ⟨_, rfl, finC_40 cA a u sa x1⟩
  | 41, _ => exact ⟨_, rfl, finC_41 cA a u sa x1⟩
  | 42, _ => exact ⟨_, rfl, finC_42 cA a u sa x1⟩
  | 43, _ => exact ⟨_, rfl, finC_43 cA a u sa x1⟩
  | 44, _ => exact ⟨_, rfl, finC_44 cA a u sa x1⟩
  | 45, _ => exact ⟨_, rfl, finC_45 cA a u sa x1⟩
  | 46, _ => exact ⟨_, rfl, finC_46 cA a u sa x1⟩
  | 47, _ => exact ⟨_, rfl, finC_47 cA a u sa x1⟩
  | 48, _ => exact ⟨_, rfl, finC_48 cA a u sa x1⟩
  | 49, _ => exact ⟨_, rfl, finC_49 cA a u sa x1⟩
  | 50, _ => exact ⟨_, rfl, finC_50 cA a u sa x1⟩
  | 51, _ => exact ⟨_, rfl, finC_51 cA a u sa x1⟩
  | 52, _ => exact ⟨_, rfl, finC_52 cA a u sa x1⟩
  | 53, _ => exact ⟨_, rfl, finC_53 cA a u sa x1⟩
  | 54, _ => exact ⟨_, rfl, finC_54 cA a u sa x1⟩
  | 55, _ => exact ⟨_, rfl, finC_55 cA a u sa x1⟩
  | k + 56, h => exact absurd h (by omega)
theorem permC_inj : ∀ i, i < 56 → ∀ j, j < 56 → permC.getD i 0 = permC.getD j 0 → i = j := by decide +kernel
theorem finC {D : va_G} {cA : Nat → ClassId} {a : Nat} {u sa : Nat → Nat} {x1 : Int32} {A : Nat → Prop} {H : Heap} (hP : va_P D vwCl (lstC cA a u sa x1) H) (hD : va_D A (lstC cA a u sa x1)) : va_P D vwCl (xW SC cA (adC a u sa) (M0C x1)) H ∧ xApart SC (adC a u sa) ∧ (∀ q, xA SC (adC a u sa) q → A q) ∧ ∀ q, xA SC (adC a u sa) q → ∃ (k : Nat) (v : va_E), (lstC cA a u sa x1)[k]? = some (q, v) := by
  refine ⟨fun k q hq => ?_, fun i j hi hj e => ?_, fun q h => ?_, fun q h => ?_⟩
  · obtain ⟨c, h1, rfl⟩ := xW_get hq
    obtain ⟨c2, h2, h3⟩ := finC_at cA a u sa x1 k (List.getElem?_eq_some_iff.mp h1).1
    rw [h1] at h2
    cases h2
    exact hP _ _ h3
  · obtain ⟨c, -, h1⟩ := finC_at cA a u sa x1 i hi
    obtain ⟨c2, -, h2⟩ := finC_at cA a u sa x1 j hj
    exact permC_inj i hi j hj (hD.1 _ _ _ _ h1 h2 e)
  · obtain ⟨k, hk, rfl⟩ := h
    obtain ⟨c, -, h1⟩ := finC_at cA a u sa x1 k hk
    exact hD.2 _ _ h1
  · obtain ⟨k, hk, rfl⟩ := h
    obtain ⟨c, -, h1⟩ := finC_at cA a u sa x1 k hk
    exact ⟨_, _, h1⟩
/-- where the cells lie, and what they hold, behind the constructor -/
def adM (a : Nat) (u sa : Nat → Nat) : Nat → Nat := fun k => if k < 1000 then ([a, u 0, u 1, u 2, u 3, u 4, u 5, u 6, u 7, u 8, u 9, u 10, u 11, u 12, u 13, u 14, u 15, u 16, u 17, u 18, u 19, u 20, u 21, u 22, u 23, u 24, u 25, u 26, u 27, u 28, u 29, u 30, u 31, u 32, u 33, u 34, u 35, u 36, u 37, u 38, u 39, u 40, u 41, u 42, u 43, u 44] : List Nat).getD k 0 else sa k
def M0M (x1 : Int32) : xM := fun k => match k with
  | 0 => fun j => ([0, (jmax (2) (jmin (16) x1)), 0, 0, 0, 0, 0, 0, 0, 0, 0, 0, 0, 0, nI 7, 0, 0, (-1), 0, 0, 0, 0, 0, 0, 0, 0, 0, 0, 0, 0, 0, 0, 0, 0, 0, 0, 0, 0, 0, 0, 0, 0, 0, 0, 0, 0, 0, 0, 0, 0, 0, 0, 0, 0, 0, 0, 0, 0, 0, (1), 0, 0, 0, 0, 0, 0, 0, 0, 0, 0, 0, 0] : List Int32).getD j 0
  | 1 => (fun _ => 0)
  | 2 => (fun _ => 0)
  | 3 => (upd (upd (upd (upd (upd (upd (upd (upd (upd (upd (upd (upd (upd (upd (upd (upd (fun _ => 0) (0 : Int32).toNatClampNeg (-1)) (1 : Int32).toNatClampNeg (-1)) (2 : Int32).toNatClampNeg (-1)) (3 : Int32).toNatClampNeg (-1)) (4 : Int32).toNatClampNeg (-1)) (5 : Int32).toNatClampNeg (-1)) (6 : Int32).toNatClampNeg (-1)) (7 : Int32).toNatClampNeg (-1)) (8 : Int32).toNatClampNeg (-1)) (9 : Int32).toNatClampNeg (-1)) (10 : Int32).toNatClampNeg (-1)) (11 : Int32).toNatClampNeg (-1)) (12 : Int32).toNatClampNeg (-1)) (13 : Int32).toNatClampNeg (-1)) (14 : Int32).toNatClampNeg (-1)) (15 : Int32).toNatClampNeg (-1))
  | 4 => (fun _ => 0)
  | 5 => (fun _ => 0)
  | 6 => (fun _ => 0)
  | 7 => (fun _ => 0)
  | 8 => (fun _ => 0)
  | 9 => (fun _ => 0)
  | 10 => (fun _ => 0)
  | 11 => (fun _ => 0)
  | 12 => (fun _ => 0)
  | 13 => (upd (upd (upd (upd (upd (upd (fun _ => 0) (0 : Int32).toNatClampNeg (-1)) (1 : Int32).toNatClampNeg (-1)) (2 : Int32).toNatClampNeg (-1)) (3 : Int32).toNatClampNeg (-1)) (4 : Int32).toNatClampNeg (-1)) (5 : Int32).toNatClampNeg (-1))
  | 14 => (upd (upd (upd (upd (upd (upd (fun _ => 0) (0 : Int32).toNatClampNeg (1)) (1 : Int32).toNatClampNeg (1)) (2 : Int32).toNatClampNeg (1)) (3 : Int32).toNatClampNeg (1)) (4 : Int32).toNatClampNeg (1)) (5 : Int32).toNatClampNeg (1))
  | 15 => (fun _ => 0)
  | 16 => (fun _ => 0)
  | 17 => (fun _ => 0)
  | 18 => (fun _ => 0)
  | 19 => (fun _ => 0)
  | 20 => (fun _ => 0)
  | 21 => (fun _ => 0)
  | 22 => (fun _ => 0)
  | 23 => (fun _ => 0)
  | 24 => (fun _ => 0)
  | 25 => (fun _ => 0)
  | 26 => (fun _ => 0)
  | 27 => (fun _ => 0)
  | 28 => (fun _ => 0)
  | 29 => (fun _ => 0)
  | 30 => (fun _ => 0)
  | 31 => (fun _ => 0)
  | 32 => (fun _ => 0)
  | 33 => (fun _ => 0)
  | 34 => (fun _ => 0)
  | 35 => (fun _ => 0)
  | 36 => (fun _ => 0)
  | 37 => (fun _ => 0)
  | 38 => (fun _ => 0)
  | 39 => (fun _ => 0)
  | 40 => (fun _ => 0)
  | 41 => (fun _ => 0)
  | 42 => (fun _ => 0)
  | 43 => (fun _ => 0)
  | 44 => (fun _ => 0)
  | 45 => (fun _ => 0)
  | _ => fun _ => 0
def permM : List Nat := [0, 1, 2, 3, 4, 5, 6, 7, 8, 9, 10, 11, 12, 13, 14, 15, 16, 17, 18, 19, 20, 21, 22, 23, 24, 25, 26, 27, 28, 29, 30, 31, 32, 33, 34, 35, 36, 37, 38, 39, 40, 41, 42, 43, 44, 45]
def lstM (cA : Nat → ClassId) (a : Nat) (u sa : Nat → Nat) (x1 : Int32) : va_W := [(a, .inr (11, [.int 0, .int (jmax (2) (jmin (16) x1)), .ref (u 0), .ref (u 1), .ref (u 2), .ref (u 3), .ref (u 4), .int 0, .int 0, .ref (u 5), .ref (u 6), .ref (u 7), .ref (u 8), .ref (u 9), .ref (u 6), .int 0, .int 0, .int (-1), .int 0, .int 0, .int 0, .int 0, .int 0, .int 0, .int 0, .ref (sa 1000), .ref (sa 1001), .int 0, .ref (u 10), .ref (u 11), .ref (u 12), .ref (u 13), .int 0, .ref (u 14), .ref (u 15), .ref (u 16), .ref (u 17), .ref (u 18), .ref (u 19), .ref (u 20), .ref (u 21), .ref (u 22), .int 0, .int 0, .int 0, .ref (u 23), .ref (u 24), .ref (u 25), .ref (u 26), .int 0, .ref (u 27), .ref (u 28), .ref (u 29), .int 0, .ref (u 30), .ref (u 31), .ref (u 32), .ref (u 33), .int 0, .int (1), .ref (u 34), .ref (u 35), .ref (u 36), .ref (u 37), .ref (u 38), .ref (u 39), .ref (u 40), .ref (u 41), .ref (u 42), .int 0, .ref (u 43), .ref (u 44)])), ((u 0), .inl (cA 0, 6, .inl (fun _ => 0))), ((u 1), .inl (cA 0, 6, .inl (fun _ => 0))), ((u 2), .inl (cA 0, 16, .inl (upd (upd (upd (upd (upd (upd (upd (upd (upd (upd (upd (upd (upd (upd (upd (upd (fun _ => 0) (0 : Int32).toNatClampNeg (-1)) (1 : Int32).toNatClampNeg (-1)) (2 : Int32).toNatClampNeg (-1)) (3 : Int32).toNatClampNeg (-1)) (4 : Int32).toNatClampNeg (-1)) (5 : Int32).toNatClampNeg (-1)) (6 : Int32).toNatClampNeg (-1)) (7 : Int32).toNatClampNeg (-1)) (8 : Int32).toNatClampNeg (-1)) (9 : Int32).toNatClampNeg (-1)) (10 : Int32).toNatClampNeg (-1)) (11 : Int32).toNatClampNeg (-1)) (12 : Int32).toNatClampNeg (-1)) (13 : Int32).toNatClampNeg (-1)) (14 : Int32).toNatClampNeg (-1)) (15 : Int32).toNatClampNeg (-1)))), ((u 3), .inl (cA 0, 10, .inl (fun _ => 0))), ((u 4), .inl (cA 0, 10, .inl (fun _ => 0))), ((u 5), .inl (cA 2, 1024, .inl (fun _ => 0))), ((u 6), .inl (cA 1, 120, .inl (fun _ => 0))), ((u 7), .inl (cA 1, 480, .inl (fun _ => 0))), ((u 8), .inl (cA 0, 4, .inl (fun _ => 0))), ((u 9), .inl (cA 0, 128, .inl (fun _ => 0))), ((u 10), .inl (cA 0, 30, .inl (fun _ => 0))), ((u 11), .inl (cA 0, 96, .inl (fun _ => 0))), ((u 12), .inl (cA 0, 6, .inl (upd (upd (upd (upd (upd (upd (fun _ => 0) (0 : Int32).toNatClampNeg (-1)) (1 : Int32).toNatClampNeg (-1)) (2 : Int32).toNatClampNeg (-1)) (3 : Int32).toNatClampNeg (-1)) (4 : Int32).toNatClampNeg (-1)) (5 : Int32).toNatClampNeg (-1)))), ((u 13), .inl (cA 0, 6, .inl (upd (upd (upd (upd (upd (upd (fun _ => 0) (0 : Int32).toNatClampNeg (1)) (1 : Int32).toNatClampNeg (1)) (2 : Int32).toNatClampNeg (1)) (3 : Int32).toNatClampNeg (1)) (4 : Int32).toNatClampNeg (1)) (5 : Int32).toNatClampNeg (1)))), ((u 14), .inl (cA 0, 6, .inl (fun _ => 0))), ((u 15), .inl (cA 0, 48, .inl (fun _ => 0))), ((u 16), .inl (cA 0, 48, .inl (fun _ => 0))), ((u 17), .inl (cA 0, 48, .inl (fun _ => 0))), ((u 18), .inl (cA 0, 16, .inl (fun _ => 0))), ((u 19), .inl (cA 0, 16, .inl (fun _ => 0))), ((u 20), .inl (cA 0, 16, .inl (fun _ => 0))), ((u 21), .inl (cA 0, 16, .inl (fun _ => 0))), ((u 22), .inl (cA 2, 16, .inl (fun _ => 0))), ((u 23), .inl (cA 0, 96, .inl (fun _ => 0))), ((u 24), .inl (cA 0, 96, .inl (fun _ => 0))), ((u 25), .inl (cA 0, 8, .inl (fun _ => 0))), ((u 26), .inl (cA 0, 8, .inl (fun _ => 0))), ((u 27), .inl (cA 0, 16, .inl (fun _ => 0))), ((u 28), .inl (cA 0, 8, .inl (fun _ => 0))), ((u 29), .inl (cA 0, 16, .inl (fun _ => 0))), ((u 30), .inl (cA 1, 64, .inl (fun _ => 0))), ((u 31), .inl (cA 1, 960, .inl (fun _ => 0))), ((u 32), .inl (cA 0, 8, .inl (fun _ => 0))), ((u 33), .inl (cA 0, 120, .inl (fun _ => 0))), ((u 34), .inl (cA 0, 81, .inl (fun _ => 0))), ((u 35), .inl (cA 0, 16, .inl (fun _ => 0))), ((u 36), .inl (cA 0, 16, .inl (fun _ => 0))), ((u 37), .inl (cA 0, 6, .inl (fun _ => 0))), ((u 38), .inl (cA 0, 120, .inl (fun _ => 0))), ((u 39), .inl (cA 0, 120, .inl (fun _ => 0))), ((u 40), .inl (cA 0, 120, .inl (fun _ => 0))), ((u 41), .inl (cA 2, 21, .inl (fun _ => 0))), ((u 42), .inl (cA 0, 21, .inl (fun _ => 0))), ((u 43), .inl (cA 0, 96, .inl (fun _ => 0))), ((u 44), .inl (cA 0, 768, .inl (fun _ => 0)))]
set_option maxRecDepth 100000 in
theorem finM_0 (cA : Nat → ClassId) (a : Nat) (u sa : Nat → Nat) (x1 : Int32) : (lstM cA a u sa x1)[0]? = some (adM a u sa 0, xE cA (adM a u sa) (.inr (11, [0, 0, 3, 4, 5, 6, 7, 0, 0, 8, 9, 10, 11, 12, 1, 0, 0, 0, 0, 0, 0, 0, 0, 0, 0, 1002, 1003, 0, 13, 14, 15, 16, 0, 17, 18, 19, 20, 21, 22, 23, 24, 25, 0, 0, 0, 26, 27, 28, 29, 0, 30, 31, 32, 0, 33, 34, 35, 36, 0, 0, 37, 38, 39, 40, 41, 42, 43, 44, 45, 0, 46, 47])) (M0M x1 0)) := by
  show _ = some (_, Sum.inr (11, xFs _ _ _))
  rw [xFs_f]
  rfl
set_option maxRecDepth 100000 in
theorem finM_1 (cA : Nat → ClassId) (a : Nat) (u sa : Nat → Nat) (x1 : Int32) : (lstM cA a u sa x1)[1]? = some (adM a u sa 1, xE cA (adM a u sa) (.inl (0, 6)) (M0M x1 1)) := rfl
set_option maxRecDepth 100000 in
theorem finM_2 (cA : Nat → ClassId) (a : Nat) (u sa : Nat → Nat) (x1 : Int32) : (lstM cA a u sa x1)[2]? = some (adM a u sa 2, xE cA (adM a u sa) (.inl (0, 6)) (M0M x1 2)) := rfl
set_option maxRecDepth 100000 in
theorem finM_3 (cA : Nat → ClassId) (a : Nat) (u sa : Nat → Nat) (x1 : Int32) : (lstM cA a u sa x1)[3]? = some (adM a u sa 3, xE cA (adM a u sa) (.inl (0, 16)) (M0M x1 3)) := rfl
set_option maxRecDepth 100000 in
theorem finM_4 (cA : Nat → ClassId) (a : Nat) (u sa : Nat → Nat) (x1 : Int32) : (lstM cA a u sa x1)[4]? = some (adM a u sa 4, xE cA (adM a u sa) (.inl (0, 10)) (M0M x1 4)) := rfl
set_option maxRecDepth 100000 in
theorem finM_5 (cA : Nat → ClassId) (a : Nat) (u sa : Nat → Nat) (x1 : Int32) : (lstM cA a u sa x1)[5]? = some (adM a u sa 5, xE cA (adM a u sa) (.inl (0, 10)) (M0M x1 5)) := rfl
set_option maxRecDepth 100000 in
theorem finM_6 (cA : Nat → ClassId) (a : Nat) (u sa : Nat → Nat) (x1 : Int32) : (lstM cA a u sa x1)[6]? = some (adM a u sa 6, xE cA (adM a u sa) (.inl (2, 1024)) (M0M x1 6)) := rfl
set_option maxRecDepth 100000 in
theorem finM_7 (cA : Nat → ClassId) (a : Nat) (u sa : Nat → Nat) (x1 : Int32) : (lstM cA a u sa x1)[7]? = some (adM a u sa 7, xE cA (adM a u sa) (.inl (1, 120)) (M0M x1 7)) := rfl
set_option maxRecDepth 100000 in
theorem finM_8 (cA : Nat → ClassId) (a : Nat) (u sa : Nat → Nat) (x1 : Int32) : (lstM cA a u sa x1)[8]? = some (adM a u sa 8, xE cA (adM a u sa) (.inl (1, 480)) (M0M x1 8)) := rfl
set_option maxRecDepth 100000 in
theorem finM_9 (cA : Nat → ClassId) (a : Nat) (u sa : Nat → Nat) (x1 : Int32) : (lstM cA a u sa x1)[9]? = some (adM a u sa 9, xE cA (adM a u sa) (.inl (0, 4)) (M0M x1 9)) := rfl
set_option maxRecDepth 100000 in
theorem finM_10 (cA : Nat → ClassId) (a : Nat) (u sa : Nat → Nat) (x1 : Int32) : (lstM cA a u sa x1)[10]? = some (adM a u sa 10, xE cA (adM a u sa) (.inl (0, 128)) (M0M x1 10)) := rfl
set_option maxRecDepth 100000 in
theorem finM_11 (cA : Nat → ClassId) (a : Nat) (u sa : Nat → Nat) (x1 : Int32) : (lstM cA a u sa x1)[11]? = some (adM a u sa 11, xE cA (adM a u sa) (.inl (0, 30)) (M0M x1 11)) := rfl
set_option maxRecDepth 100000 in
theorem finM_12 (cA : Nat → ClassId) (a : Nat) (u sa : Nat → Nat) (x1 : Int32) : (lstM cA a u sa x1)[12]? = some (adM a u sa 12, xE cA (adM a u sa) (.inl (0, 96)) (M0M x1 12)) := rfl
set_option maxRecDepth 100000 in
theorem finM_13 (cA : Nat → ClassId) (a : Nat) (u sa : Nat → Nat) (x1 : Int32) : (lstM cA a u sa x1)[13]? = some (adM a u sa 13, xE cA (adM a u sa) (.inl (0, 6)) (M0M x1 13)) := rfl
set_option maxRecDepth 100000 in
theorem finM_14 (cA : Nat → ClassId) (a : Nat) (u sa : Nat → Nat) (x1 : Int32) : (lstM cA a u sa x1)[14]? = some (adM a u sa 14, xE cA (adM a u sa) (.inl (0, 6)) (M0M x1 14)) := rfl
set_option maxRecDepth 100000 in
theorem finM_15 (cA : Nat → ClassId) (a : Nat) (u sa : Nat → Nat) (x1 : Int32) : (lstM cA a u sa x1)[15]? = some (adM a u sa 15, xE cA (adM a u sa) (.inl (0, 6)) (M0M x1 15)) := rfl
set_option maxRecDepth 100000 in
theorem finM_16 (cA : Nat → ClassId) (a : Nat) (u sa : Nat → Nat) (x1 : Int32) : (lstM cA a u sa x1)[16]? = some (adM a u sa 16, xE cA (adM a u sa) (.inl (0, 48)) (M0M x1 16)) := rfl
set_option maxRecDepth 100000 in
theorem finM_17 (cA : Nat → ClassId) (a : Nat) (u sa : Nat → Nat) (x1 : Int32) : (lstM cA a u sa x1)[17]? = some (adM a u sa 17, xE cA (adM a u sa) (.inl (0, 48)) (M0M x1 17)) := rfl
set_option maxRecDepth 100000 in
theorem finM_18 (cA : Nat → ClassId) (a : Nat) (u sa : Nat → Nat) (x1 : Int32) : (lstM cA a u sa x1)[18]? = some (adM a u sa 18, xE cA (adM a u sa) (.inl (0, 48)) (M0M x1 18)) := rfl
set_option maxRecDepth 100000 in
theorem finM_19 (cA : Nat → ClassId) (a : Nat) (u sa : Nat → Nat) (x1 : Int32) : (lstM cA a u sa x1)[19]? = some (adM a u sa 19, xE cA (adM a u sa) (.inl (0, 16)) (M0M x1 19)) := rfl
set_option maxRecDepth 100000 in
theorem finM_20 (cA : Nat → ClassId) (a : Nat) (u sa : Nat → Nat) (x1 : Int32) : (lstM cA a u sa x1)[20]? = some (adM a u sa 20, xE cA (adM a u sa) (.inl (0, 16)) (M0M x1 20)) := rfl
set_option maxRecDepth 100000 in
theorem finM_21 (cA : Nat → ClassId) (a : Nat) (u sa : Nat → Nat) (x1 : Int32) : (lstM cA a u sa x1)[21]? = some (adM a u sa 21, xE cA (adM a u sa) (.inl (0, 16)) (M0M x1 21)) := rfl
set_option maxRecDepth 100000 in
theorem finM_22 (cA : Nat → ClassId) (a : Nat) (u sa : Nat → Nat) (x1 : Int32) : (lstM cA a u sa x1)[22]? = some (adM a u sa 22, xE cA (adM a u sa) (.inl (0, 16)) (M0M x1 22)) := rfl
set_option maxRecDepth 100000 in
theorem finM_23 (cA : Nat → ClassId) (a : Nat) (u sa : Nat → Nat) (x1 : Int32) : (lstM cA a u sa x1)[23]? = some (adM a u sa 23, xE cA (adM a u sa) (.inl (2, 16)) (M0M x1 23)) := rfl
set_option maxRecDepth 100000 in
theorem finM_24 (cA : Nat → ClassId) (a : Nat) (u sa : Nat → Nat) (x1 : Int32) : (lstM cA a u sa x1)[24]? = some (adM a u sa 24, xE cA (adM a u sa) (.inl (0, 96)) (M0M x1 24)) := rfl
set_option maxRecDepth 100000 in
theorem finM_25 (cA : Nat → ClassId) (a : Nat) (u sa : Nat → Nat) (x1 : Int32) : (lstM cA a u sa x1)[25]? = some (adM a u sa 25, xE cA (adM a u sa) (.inl (0, 96)) (M0M x1 25)) := rfl
set_option maxRecDepth 100000 in
theorem finM_26 (cA : Nat → ClassId) (a : Nat) (u sa : Nat → Nat) (x1 : Int32) : (lstM cA a u sa x1)[26]? = some (adM a u sa 26, xE cA (adM a u sa) (.inl (0, 8)) (M0M x1 26)) := rfl
set_option maxRecDepth 100000 in
theorem finM_27 (cA : Nat → ClassId) (a : Nat) (u sa : Nat → Nat) (x1 : Int32) : (lstM cA a u sa x1)[27]? = some (adM a u sa 27, xE cA (adM a u sa) (.inl (0, 8)) (M0M x1 27)) := rfl
set_option maxRecDepth 100000 in
theorem finM_28 (cA : Nat → ClassId) (a : Nat) (u sa : Nat → Nat) (x1 : Int32) : (lstM cA a u sa x1)[28]? = some (adM a u sa 28, xE cA (adM a u sa) (.inl (0, 16)) (M0M x1 28)) := rfl
set_option maxRecDepth 100000 in
theorem finM_29 (cA : Nat → ClassId) (a : Nat) (u sa : Nat → Nat) (x1 : Int32) : (lstM cA a u sa x1)[29]? = some (adM a u sa 29, xE cA (adM a u sa) (.inl (0, 8)) (M0M x1 29)) := rfl
set_option maxRecDepth 100000 in
theorem finM_30 (cA : Nat → ClassId) (a : Nat) (u sa : Nat → Nat) (x1 : Int32) : (lstM cA a u sa x1)[30]? = some (adM a u sa 30, xE cA (adM a u sa) (.inl (0, 16)) (M0M x1 30)) := rfl
set_option maxRecDepth 100000 in
theorem finM_31 (cA : Nat → ClassId) (a : Nat) (u sa : Nat → Nat) (x1 : Int32) : (lstM cA a u sa x1)[31]? = some (adM a u sa 31, xE cA (adM a u sa) (.inl (1, 64)) (M0M x1 31)) := rfl
set_option maxRecDepth 100000 in
theorem finM_32 (cA : Nat → ClassId) (a : Nat) (u sa : Nat → Nat) (x1 : Int32) : (lstM cA a u sa x1)[32]? = some (adM a u sa 32, xE cA (adM a u sa) (.inl (1, 960)) (M0M x1 32)) := rfl
set_option maxRecDepth 100000 in
theorem finM_33 (cA : Nat → ClassId) (a : Nat) (u sa : Nat → Nat) (x1 : Int32) : (lstM cA a u sa x1)[33]? = some (adM a u sa 33, xE cA (adM a u sa) (.inl (0, 8)) (M0M x1 33)) := rfl
set_option maxRecDepth 100000 in
theorem finM_34 (cA : Nat → ClassId) (a : Nat) (u sa : Nat → Nat) (x1 : Int32) : (lstM cA a u sa x1)[34]? = some (adM a u sa 34, xE cA (adM a u sa) (.inl (0, 120)) (M0M x1 34)) := rfl
set_option maxRecDepth 100000 in
theorem finM_35 (cA : Nat → ClassId) (a : Nat) (u sa : Nat → Nat) (x1 : Int32) : (lstM cA a u sa x1)[35]? = some (adM a u sa 35, xE cA (adM a u sa) (.inl (0, 81)) (M0M x1 35)) := rfl
set_option maxRecDepth 100000 in
theorem finM_36 (cA : Nat → ClassId) (a : Nat) (u sa : Nat → Nat) (x1 : Int32) : (lstM cA a u sa x1)[36]? = some (adM a u sa 36, xE cA (adM a u sa) (.inl (0, 16)) (M0M x1 36)) := rfl
set_option maxRecDepth 100000 in
theorem finM_37 (cA : Nat → ClassId) (a : Nat) (u sa : Nat → Nat) (x1 : Int32) : (lstM cA a u sa x1)[37]? = some (adM a u sa 37, xE cA (adM a u sa) (.inl (0, 16)) (M0M x1 37)) := rfl
set_option maxRecDepth 100000 in
theorem finM_38 (cA : Nat → ClassId) (a : Nat) (u sa : Nat → Nat) (x1 : Int32) : (lstM cA a u sa x1)[38]? = some (adM a u sa 38, xE cA (adM a u sa) (.inl (0, 6)) (M0M x1 38)) := rfl
set_option maxRecDepth 100000 in
theorem finM_39 (cA : Nat → ClassId) (a : Nat) (u sa : Nat → Nat) (x1 : Int32) : (lstM cA a u sa x1)[39]? = some (adM a u sa 39, xE cA (adM a u sa) (.inl (0, 120)) (M0M x1 39)) := rfl
set_option maxRecDepth 100000 in
theorem finM_40 (cA : Nat → ClassId) (a : Nat) (u sa : Nat → Nat) (x1 : Int32) : (lstM cA a u sa x1)[40]? = some (adM a u sa 40, xE cA (adM a u sa) (.inl (0, 120)) (M0M x1 40)) := rfl
set_option maxRecDepth 100000 in
theorem finM_41 (cA : Nat → ClassId) (a : Nat) (u sa : Nat → Nat) (x1 : Int32) : (lstM cA a u sa x1)[41]? = some (adM a u sa 41, xE cA (adM a u sa) (.inl (0, 120)) (M0M x1 41)) := rfl
set_option maxRecDepth 100000 in
theorem finM_42 (cA : Nat → ClassId) (a : Nat) (u sa : Nat → Nat) (x1 : Int32) : (lstM cA a u sa x1)[42]? = some (adM a u sa 42, xE cA (adM a u sa) (.inl (2, 21)) (M0M x1 42)) := rfl
set_option maxRecDepth 100000 in
theorem finM_43 (cA : Nat → ClassId) (a : Nat) (u sa : Nat → Nat) (x1 : Int32) : (lstM cA a u sa x1)[43]? = some (adM a u sa 43, xE cA (adM a u sa) (.inl (0, 21)) (M0M x1 43)) := rfl
set_option maxRecDepth 100000 in
theorem finM_44 (cA : Nat → ClassId) (a : Nat) (u sa : Nat → Nat) (x1 : Int32) : (lstM cA a u sa x1)[44]? = some (adM a u sa 44, xE cA (adM a u sa) (.inl (0, 96)) (M0M x1 44)) := rfl
set_option maxRecDepth 100000 in
theorem finM_45 (cA : Nat → ClassId) (a : Nat) (u sa : Nat → Nat) (x1 : Int32) : (lstM cA a u sa x1)[45]? = some (adM a u sa 45, xE cA (adM a u sa) (.inl (0, 768)) (M0M x1 45)) := rfl
theorem finM_at (cA : Nat → ClassId) (a : Nat) (u sa : Nat → Nat) (x1 : Int32) : ∀ k, k < 46 → ∃ c, SM[k]? = some c ∧ (lstM cA a u sa x1)[permM.getD k 0]? = some (adM a u sa k, xE cA (adM a u sa) c (M0M x1 k)) := by
  intro k hk
  match k, hk with
  | 0, _ => exact ⟨_, rfl, finM_0 cA a u sa x1⟩
  | 1, _ => exact ⟨_, rfl, finM_1 cA a u sa x1⟩
  | 2, _ => exact ⟨_, rfl, finM_2 cA a u sa x1⟩
  | 3, _ => exact ⟨_, rfl, finM_3 cA a u sa x1⟩
  | 4, _ => exact ⟨_, rfl, finM_4 cA a u sa x1⟩
  | 5, _ => exact ⟨_, rfl, finM_5 cA a u sa x1⟩
  | 6, _ => exact ⟨_, rfl, finM_6 cA a u sa x1⟩
  | 7, _ => exact ⟨_, rfl, finM_7 cA a u sa x1⟩
  | 8, _ => exact ⟨_, rfl, finM_8 cA a u sa x1⟩
  | 9, _ => exact ⟨_, rfl, finM_9 cA a u sa x1⟩
  | 10, _ => exact ⟨_, rfl, finM_10 cA a u sa x1⟩
  | 11, _ => exact ⟨_, rfl, finM_11 cA a u sa x1⟩
  | 12, _ => exact ⟨_, rfl, finM_12 cA a u sa x1⟩
  | 13, _ => exact ⟨_, rfl, finM_13 cA a u sa x1⟩
  | 14, _ => exact ⟨_, rfl, finM_14 cA a u sa x1⟩
  | 15, _ => exact ⟨_, rfl, finM_15 cA a u sa x1⟩
  | 16, _ => exact ⟨_, rfl, finM_16 cA a u sa x1⟩
  | 17, _ => exact ⟨_, rfl, finM_17 cA a u sa x1⟩
  | 18, _ => exact ⟨_, rfl, finM_18 cA a u sa x1⟩
  | 19, _ => exact ⟨_, rfl, finM_19 cA a u sa x1⟩
  | 20, _ => exact ⟨_, rfl, finM_20 cA a u sa x1⟩
  | 21, _ => exact ⟨_, rfl, finM_21 cA a u sa x1⟩
  | 22, _ => exact ⟨_, rfl, finM_22 cA a u sa x1⟩
  | 23, _ => exact ⟨_, rfl, finM_23 cA a u sa x1⟩
  | 24, _ => exact ⟨_, rfl, finM_24 cA a u sa x1⟩
  | 25, _ => exact ⟨_, rfl, finM_25 cA a u sa x1⟩
  | 26, _ => exact ⟨_, rfl, finM_26 cA a u sa x1⟩
  | 27, _ => exact ⟨_, rfl, finM_27 cA a u sa x1⟩
  | 28, _ => exact ⟨_, rfl, finM_28 cA a u sa x1⟩
  | 29, _ => exact ⟨_, rfl, finM_29 cA a u sa x1⟩
  | 30, _ => exact ⟨_, rfl, finM_30 cA a u sa x1⟩
  | 31, _ => exact ⟨_, rfl, finM_31 cA a u sa x1⟩
  | 32, _ => exact ⟨_, rfl, finM_32 cA a u sa x1⟩
  | 33, _ => exact ⟨_, rfl, finM_33 cA a u sa x1⟩
  | 34, _ => exact ⟨_, rfl, finM_34 cA a u sa x1⟩
  | 35, _ => exact ⟨_, rfl, finM_35 cA a u sa x1⟩
  | 36, _ => exact ⟨_, rfl, finM_36 cA a u sa x1⟩
  | 37, _ => exact ⟨_, rfl, finM_37 cA a u sa x1⟩
  | 38, _ => exact ⟨_, rfl, finM_38 cA a u sa x1⟩
  | 39, _ => exact ⟨_, rfl, finM_39 cA a u sa x1⟩
  | 40, _ => exact ⟨_, rfl, finM_40 cA a u sa x1⟩
  | 41, _ => exact ⟨_, rfl, finM_41 cA a u sa x1⟩
  | 42, _ => exact ⟨_, rfl, finM_42 cA a u sa x1⟩
  | 43, _ => exact ⟨_, rfl, finM_43 cA a u sa x1⟩
  | 44, _ => exact ⟨_, rfl, finM_44 cA a u sa x1⟩
  | 45, _ => exact ⟨_, rfl, finM_45 cA a u sa x1⟩
  | k + 46, h => exact absurd h (by omega)
theorem permM_inj : ∀ i, i < 46 → ∀ j, j < 46 → permM.getD i 0 = permM.getD j 0 → i = j := by decide +kernel
theorem finM {D : va_G} {cA : Nat → ClassId} {a : Nat} {u sa : Nat → Nat} {x1 : Int32} {A : Nat → Prop} {H : Heap} (hP : va_P D vwCl (lstM cA a u sa x1) H) (hD : va_D A (lstM cA a u sa x1)) : va_P D vwCl (xW SM cA (adM a u sa) (M0M x1)) H ∧ xApart SM (adM a u sa) ∧ (∀ q, xA SM (adM a u sa) q → A q) ∧ ∀ q, xA SM (adM a u sa) q → ∃ (k : Nat) (v : va_E), (lstM cA a u sa x1)[k]? = some (q, v) := by
  refine ⟨fun k q hq => ?_, fun i j hi hj e => ?_, fun q h => ?_, fun q h => ?_⟩
  · obtain ⟨c, h1, rfl⟩ := xW_get hq
    obtain ⟨c2, h2, h3⟩ := finM_at cA a u sa x1 k (List.getElem?_eq_some_iff.mp h1).1
    rw [h1] at h2
    cases h2
    exact hP _ _ h3
  · obtain ⟨c, -, h1⟩ := finM_at cA a u sa x1 i hi
    obtain ⟨c2, -, h2⟩ := finM_at cA a u sa x1 j hj
    exact permM_inj i hi j hj (hD.1 _ _ _ _ h1 h2 e)
  · obtain ⟨k, hk, rfl⟩ := h
    obtain ⟨c, -, h1⟩ := finM_at cA a u sa x1 k hk
    exact hD.2 _ _ h1
  · obtain ⟨k, hk, rfl⟩ := h
    obtain ⟨c, -, h1⟩ := finM_at cA a u sa x1 k hk
    exact ⟨_, _, h1⟩
