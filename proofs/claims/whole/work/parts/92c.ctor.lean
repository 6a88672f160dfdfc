def csP (dA : Nat → ClassId) (a : Nat) : List va_E := [.inr (11, [.ref (a + 1), .ref (a + 7), .ref (a + 17), .ref (a + 19), .ref (a + 21), .ref (a + 22), .ref (a + 26), .ref (a + 36), .ref (a + 46), .ref (a + 52), .ref (a + 61), .int 0]), .inr (0, [.int 0, .int 0, .int 0, .ref (a + 2), .ref (a + 3), .ref (a + 4), .ref (a + 5)]), .inl (dA 0, 4096, .inl (fun _ => 0)), .inl (dA 0, 4096, .inl (fun _ => 0)), .inl (dA 0, 4096, .inl (fun _ => 0)), .inr (2, [.ref (a + 6), .int 0, .int 0]), .inl (dA 0, 5, .inl (fun _ => 0)), .inr (5, [.ref (a + 1), .ref (a + 8), .ref (a + 11), .ref (a + 12), .ref (a + 13), .ref (a + 14), .ref (a + 15), .ref (a + 16), .int 0, .int 0, .int 0, .int 0, .int 0, .int 0, .int 0, .int 0, .int 0]), .inr (6, [.ref (a + 9), .ref (a + 10), .int 0]), .inl (dA 1, 1024, .inl (fun _ => 0)), .inl (dA 0, 1024, .inl (fun _ => 0)), .inl (dA 0, 50, .inl (fun _ => 0)), .inl (dA 0, 10, .inl (fun _ => 0)), .inl (dA 1, 4096, .inl (fun _ => 0)), .inl (dA 1, 4096, .inl (fun _ => 0)), .inl (dA 0, 4096, .inl (fun _ => 0)), .inl (dA 0, 4096, .inl (fun _ => 0)), .inr (2, [.ref (a + 18), .int 0, .int 0]), .inl (dA 0, 5, .inl (fun _ => 0)), .inr (3, [.ref (a + 20), .int 0, .int 0]), .inl (dA 0, 51, .inl (fun _ => 0)), .inr (8, [.int 0, .int 0, .int 0, .int 0, .int (-1)]), .inr (10, [.ref (a + 1), .ref (a + 23), .ref (a + 24), .ref (a + 25)]), .inl (dA 0, 4, .inl (fun _ => 0)), .inl (dA 0, 5, .inl (fun _ => 0)), .inl (dA 0, 4, .inl (fun _ => 0)), .inr (1, [.ref (a + 1), .int 1, .ref (a + 27), .int 0, .int 0, .int 0, .int 0, .ref (a + 30), .ref (a + 31), .ref (a + 32), .ref (a + 33), .ref (a + 34), .ref (a + 35), .ref (a + 28), .ref (a + 29)]), .inl (dA 0, 10, .inl (fun _ => 0)), .inl (dA 0, 51, .inl (fun _ => 0)), .inl (dA 0, 11264, .inl (fun _ => 0)), .inl (dA 0, 1296, .inl (fun _ => 0)), .inl (dA 0, 1296, .inl (fun _ => 0)), .inl (dA 0, 1296, .inl (fun _ => 0)), .inl (dA 0, 12960, .inl (fun _ => 0)), .inl (dA 2, 1296, .inr (.inl (fun _ => 0))), .inl (dA 0, 2048, .inl (fun _ => 0)), .inr (1, [.ref (a + 1), .int 0, .ref (a + 37), .int 0, .int 0, .int 0, .int 0, .ref (a + 40), .ref (a + 41), .ref (a + 42), .ref (a + 43), .ref (a + 44), .ref (a + 45), .ref (a + 38), .ref (a + 39)]), .inl (dA 0, 10, .inl (fun _ => 0)), .inl (dA 0, 51, .inl (fun _ => 0)), .inl (dA 0, 11264, .inl (fun _ => 0)), .inl (dA 0, 10, .inl (fun _ => 0)), .inl (dA 0, 10, .inl (fun _ => 0)), .inl (dA 0, 10, .inl (fun _ => 0)), .inl (dA 0, 100, .inl (fun _ => 0)), .inl (dA 2, 10, .inr (.inl (fun _ => 0))), .inl (dA 0, 0, .inl (fun _ => 0)), .inr (9, [.ref (a + 47), .ref (a + 48), .ref (a + 49), .ref (a + 50), .ref (a + 51), .int 0]), .inl (dA 0, 20, .inl (fun _ => 0)), .inl (dA 0, 20, .inl (fun _ => 0)), .inl (dA 0, 20, .inl (fun _ => 0)), .inl (dA 0, 20, .inl (fun _ => 0)), .inl (dA 0, 20, .inl (fun _ => 0)), .inr (4, [.ref (a + 53), .ref (a + 54), .ref (a + 55), .ref (a + 56), .ref (a + 57), .ref (a + 58), .ref (a + 59), .ref (a + 60), .int 0, .int 0, .int 0]), .inl (dA 0, 40, .inl (fun _ => 0)), .inl (dA 0, 40, .inl (fun _ => 0)), .inl (dA 0, 40, .inl (fun _ => 0)), .inl (dA 0, 40, .inl (fun _ => 0)), .inl (dA 2, 40, .inr (.inl (fun _ => 0))), .inl (dA 1, 40, .inl (fun _ => 0)), .inl (dA 2, 40, .inr (.inl (fun _ => 0))), .inl (dA 0, 40, .inl (fun _ => 0))]
def piC : List Nat := [0, 1, 2, 3, 4, 5, 6, 7, 8, 9, 10, 11, 12, 13, 14, 15, 16, 17, 18, 19, 20, 21, 22, 23, 24, 25, 26, 27, 30, 31, 32, 33, 34, 35, 28, 29, 36, 37, 40, 41, 42, 43, 44, 45, 38, 39, 46, 47, 48, 49, 50, 51, 52, 53, 54, 55, 56, 57, 58, 59, 60, 61, 62, 63, 64, 65, 66, 67, 68, 69, 70, 71, 72, 73]
/-- where the court's cells lie, the object at a -/
def adC (a k : Nat) : Nat := a + piC.getD k k
def adM (a k : Nat) : Nat := a + k
theorem shf (a : Nat) : (va_up (va_up (va_up (va_up (va_up (va_up (fun _ => none) 0 (some (a + 62))) 1 (some (a + 64))) 2 (some (a + 66))) 3 (some (a + 68))) 4 (some (a + 70))) 5 (some (a + 72))) = fun i => (([62, 64, 66, 68, 70, 72] : List Nat)[i]?).map (adC a) := by
  funext i
  match i with
  | 0 => rfl
  | 1 => rfl
  | 2 => rfl
  | 3 => rfl
  | 4 => rfl
  | 5 => rfl
  | n + 6 => simp [va_up]
/-- the store of a new court, ahead of its first beginning -/
def sg0 : St := fun k => match k with
  | 21 => fun i => match i with
    | 4 => -1
    | _ => 0
  | 26 => fun i => match i with
    | 1 => 1
    | _ => 0
  | _ => fun _ => 0
def csX11r (dA : Nat → ClassId) (a : Nat) : List va_E := [.inr (11, [.ref (a + 1), .ref (a + 7), .ref (a + 17), .ref (a + 19), .ref (a + 21), .ref (a + 22), .ref (a + 26), .ref (a + 36), .ref (a + 46), .ref (a + 52), .ref (a + 61), .int 0]), .inr (0, [.int 0, .int 0, .int 0, .ref (a + 2), .ref (a + 3), .ref (a + 4), .ref (a + 5)]), .inl (dA 0, 4096, .inl (fun _ => 0)), .inl (dA 0, 4096, .inl (fun _ => 0)), .inl (dA 0, 4096, .inl (fun _ => 0)), .inr (2, [.ref (a + 6), .int 0, .int 0]), .inl (dA 0, 5, .inl (fun _ => 0)), .inr (5, [.ref (a + 1), .ref (a + 8), .ref (a + 11), .ref (a + 12), .ref (a + 13), .ref (a + 14), .ref (a + 15), .ref (a + 16), .int 0, .int 0, .int 0, .int 0, .int 0, .int 0, .int 0, .int 0, .int 0]), .inr (6, [.ref (a + 9), .ref (a + 10), .int 0]), .inl (dA 1, 1024, .inl (fun _ => 0)), .inl (dA 0, 1024, .inl (fun _ => 0)), .inl (dA 0, 50, .inl (fun _ => 0)), .inl (dA 0, 10, .inl (fun _ => 0)), .inl (dA 1, 4096, .inl (fun _ => 0)), .inl (dA 1, 4096, .inl (fun _ => 0)), .inl (dA 0, 4096, .inl (fun _ => 0)), .inl (dA 0, 4096, .inl (fun _ => 0)), .inr (2, [.ref (a + 18), .int 0, .int 0]), .inl (dA 0, 5, .inl (fun _ => 0)), .inr (3, [.ref (a + 20), .int 0, .int 0]), .inl (dA 0, 51, .inl (fun _ => 0)), .inr (8, [.int 0, .int 0, .int 0, .int 0, .int (-1)]), .inr (10, [.ref (a + 1), .ref (a + 23), .ref (a + 24), .ref (a + 25)]), .inl (dA 0, 4, .inl (fun _ => 0)), .inl (dA 0, 5, .inl (fun _ => 0)), .inl (dA 0, 4, .inl (fun _ => 0)), .inr (1, [.ref (a + 1), .int 1, .ref (a + 27), .int 0, .int 0, .int 0, .int 0, .ref (a + 30), .ref (a + 31), .ref (a + 32), .ref (a + 33), .ref (a + 34), .ref (a + 35), .ref (a + 28), .ref (a + 29)]), .inl (dA 0, 10, .inl (fun _ => 0)), .inl (dA 0, 51, .inl (fun _ => 0)), .inl (dA 0, 11264, .inl (fun _ => 0)), .inl (dA 0, 1296, .inl (fun _ => 0)), .inl (dA 0, 1296, .inl (fun _ => 0)), .inl (dA 0, 1296, .inl (fun _ => 0)), .inl (dA 0, 12960, .inl (fun _ => 0)), .inl (dA 2, 1296, .inr (.inl (fun _ => 0))), .inl (dA 0, 2048, .inl (fun _ => 0)), .inr (1, [.ref (a + 1), .int 0, .ref (a + 37), .int 0, .int 0, .int 0, .int 0, .ref (a + 40), .ref (a + 41), .ref (a + 42), .ref (a + 43), .ref (a + 44), .ref (a + 45), .ref (a + 38), .ref (a + 39)]), .inl (dA 0, 10, .inl (fun _ => 0)), .inl (dA 0, 51, .inl (fun _ => 0)), .inl (dA 0, 11264, .inl (fun _ => 0)), .inl (dA 0, 10, .inl (fun _ => 0)), .inl (dA 0, 10, .inl (fun _ => 0)), .inl (dA 0, 10, .inl (fun _ => 0)), .inl (dA 0, 100, .inl (fun _ => 0)), .inl (dA 2, 10, .inr (.inl (fun _ => 0))), .inl (dA 0, 0, .inl (fun _ => 0)), .inr (9, [.ref (a + 47), .ref (a + 48), .ref (a + 49), .ref (a + 50), .ref (a + 51), .int 0]), .inl (dA 0, 20, .inl (fun _ => 0)), .inl (dA 0, 20, .inl (fun _ => 0)), .inl (dA 0, 20, .inl (fun _ => 0)), .inl (dA 0, 20, .inl (fun _ => 0)), .inl (dA 0, 20, .inl (fun _ => 0)), .inr (4, [.ref (a + 53), .ref (a + 54), .ref (a + 55), .ref (a + 56), .ref (a + 57), .ref (a + 58), .ref (a + 59), .ref (a + 60), .int 0, .int 0, .int 0]), .inl (dA 0, 40, .inl (fun _ => 0)), .inl (dA 0, 40, .inl (fun _ => 0)), .inl (dA 0, 40, .inl (fun _ => 0)), .inl (dA 0, 40, .inl (fun _ => 0)), .inl (dA 2, 40, .inr (.inl (fun _ => 0))), .inl (dA 1, 40, .inl (fun _ => 0)), .inl (dA 2, 40, .inr (.inl (fun _ => 0))), .inl (dA 0, 40, .inl (fun _ => 0)), .inl (dA 3, 6, .inr (.inr (.inr (.inr (va_up (va_up (va_up (va_up (va_up (va_up (fun _ => none) 0 (some (a + 62))) 1 (some (a + 64))) 2 (some (a + 66))) 3 (some (a + 68))) 4 (some (a + 70))) 5 (some (a + 72))))))), .inr (7, [.ref (a + 63), .int 0, .int 0, .int 0]), .inl (dA 0, 60, .inl (fun _ => 0)), .inr (7, [.ref (a + 65), .int 0, .int 0, .int 0]), .inl (dA 0, 60, .inl (fun _ => 0)), .inr (7, [.ref (a + 67), .int 0, .int 0, .int 0]), .inl (dA 0, 60, .inl (fun _ => 0)), .inr (7, [.ref (a + 69), .int 0, .int 0, .int 0]), .inl (dA 0, 60, .inl (fun _ => 0)), .inr (7, [.ref (a + 71), .int 0, .int 0, .int 0]), .inl (dA 0, 60, .inl (fun _ => 0)), .inr (7, [.ref (a + 73), .int 0, .int 0, .int 0]), .inl (dA 0, 60, .inl (fun _ => 0))]
def csX11 (dA : Nat → ClassId) (a : Nat) : List va_E := [.inr (11, [.ref (a + 1), .ref (a + 7), .ref (a + 17), .ref (a + 19), .ref (a + 21), .ref (a + 22), .ref (a + 26), .ref (a + 36), .ref (a + 46), .ref (a + 52), .ref (a + 61), .int 0]), .inr (0, [.int 0, .int 0, .int 0, .ref (a + 2), .ref (a + 3), .ref (a + 4), .ref (a + 5)]), .inl (dA 0, 4096, .inl (fun _ => 0)), .inl (dA 0, 4096, .inl (fun _ => 0)), .inl (dA 0, 4096, .inl (fun _ => 0)), .inr (2, [.ref (a + 6), .int 0, .int 0]), .inl (dA 0, 5, .inl (fun _ => 0)), .inr (5, [.ref (a + 1), .ref (a + 8), .ref (a + 11), .ref (a + 12), .ref (a + 13), .ref (a + 14), .ref (a + 15), .ref (a + 16), .int 0, .int 0, .int 0, .int 0, .int 0, .int 0, .int 0, .int 0, .int 0]), .inr (6, [.ref (a + 9), .ref (a + 10), .int 0]), .inl (dA 1, 1024, .inl (fun _ => 0)), .inl (dA 0, 1024, .inl (fun _ => 0)), .inl (dA 0, 50, .inl (fun _ => 0)), .inl (dA 0, 10, .inl (fun _ => 0)), .inl (dA 1, 4096, .inl (fun _ => 0)), .inl (dA 1, 4096, .inl (fun _ => 0)), .inl (dA 0, 4096, .inl (fun _ => 0)), .inl (dA 0, 4096, .inl (fun _ => 0)), .inr (2, [.ref (a + 18), .int 0, .int 0]), .inl (dA 0, 5, .inl (fun _ => 0)), .inr (3, [.ref (a + 20), .int 0, .int 0]), .inl (dA 0, 51, .inl (fun _ => 0)), .inr (8, [.int 0, .int 0, .int 0, .int 0, .int (-1)]), .inr (10, [.ref (a + 1), .ref (a + 23), .ref (a + 24), .ref (a + 25)]), .inl (dA 0, 4, .inl (fun _ => 0)), .inl (dA 0, 5, .inl (fun _ => 0)), .inl (dA 0, 4, .inl (fun _ => 0)), .inr (1, [.ref (a + 1), .int 1, .ref (a + 27), .int 0, .int 0, .int 0, .int 0, .ref (a + 30), .ref (a + 31), .ref (a + 32), .ref (a + 33), .ref (a + 34), .ref (a + 35), .ref (a + 28), .ref (a + 29)]), .inl (dA 0, 10, .inl (fun _ => 0)), .inl (dA 0, 51, .inl (fun _ => 0)), .inl (dA 0, 11264, .inl (fun _ => 0)), .inl (dA 0, 1296, .inl (fun _ => 0)), .inl (dA 0, 1296, .inl (fun _ => 0)), .inl (dA 0, 1296, .inl (fun _ => 0)), .inl (dA 0, 12960, .inl (fun _ => 0)), .inl (dA 2, 1296, .inr (.inl (fun _ => 0))), .inl (dA 0, 2048, .inl (fun _ => 0)), .inr (1, [.ref (a + 1), .int 0, .ref (a + 37), .int 0, .int 0, .int 0, .int 0, .ref (a + 40), .ref (a + 41), .ref (a + 42), .ref (a + 43), .ref (a + 44), .ref (a + 45), .ref (a + 38), .ref (a + 39)]), .inl (dA 0, 10, .inl (fun _ => 0)), .inl (dA 0, 51, .inl (fun _ => 0)), .inl (dA 0, 11264, .inl (fun _ => 0)), .inl (dA 0, 10, .inl (fun _ => 0)), .inl (dA 0, 10, .inl (fun _ => 0)), .inl (dA 0, 10, .inl (fun _ => 0)), .inl (dA 0, 100, .inl (fun _ => 0)), .inl (dA 2, 10, .inr (.inl (fun _ => 0))), .inl (dA 0, 0, .inl (fun _ => 0)), .inr (9, [.ref (a + 47), .ref (a + 48), .ref (a + 49), .ref (a + 50), .ref (a + 51), .int 0]), .inl (dA 0, 20, .inl (fun _ => 0)), .inl (dA 0, 20, .inl (fun _ => 0)), .inl (dA 0, 20, .inl (fun _ => 0)), .inl (dA 0, 20, .inl (fun _ => 0)), .inl (dA 0, 20, .inl (fun _ => 0)), .inr (4, [.ref (a + 53), .ref (a + 54), .ref (a + 55), .ref (a + 56), .ref (a + 57), .ref (a + 58), .ref (a + 59), .ref (a + 60), .int 0, .int 0, .int 0]), .inl (dA 0, 40, .inl (fun _ => 0)), .inl (dA 0, 40, .inl (fun _ => 0)), .inl (dA 0, 40, .inl (fun _ => 0)), .inl (dA 0, 40, .inl (fun _ => 0)), .inl (dA 2, 40, .inr (.inl (fun _ => 0))), .inl (dA 1, 40, .inl (fun _ => 0)), .inl (dA 2, 40, .inr (.inl (fun _ => 0))), .inl (dA 0, 40, .inl (fun _ => 0)), .inl (dA 3, 6, .inr (.inr (.inr (.inr (fun i => (([62, 64, 66, 68, 70, 72] : List Nat)[i]?).map (adC a)))))), .inr (7, [.ref (a + 63), .int 0, .int 0, .int 0]), .inl (dA 0, 60, .inl (fun _ => 0)), .inr (7, [.ref (a + 65), .int 0, .int 0, .int 0]), .inl (dA 0, 60, .inl (fun _ => 0)), .inr (7, [.ref (a + 67), .int 0, .int 0, .int 0]), .inl (dA 0, 60, .inl (fun _ => 0)), .inr (7, [.ref (a + 69), .int 0, .int 0, .int 0]), .inl (dA 0, 60, .inl (fun _ => 0)), .inr (7, [.ref (a + 71), .int 0, .int 0, .int 0]), .inl (dA 0, 60, .inl (fun _ => 0)), .inr (7, [.ref (a + 73), .int 0, .int 0, .int 0]), .inl (dA 0, 60, .inl (fun _ => 0))]
theorem csX11_eq (dA : Nat → ClassId) (a : Nat) : csX11r dA a = csX11 dA a := by
  unfold csX11r csX11
  rw [shf]
theorem jz : (fun _ : Nat => jn 0 0) = (fun _ : Nat => (0 : Int64)) := by
  funext i
  decide
theorem csX11_at (dA : Nat → ClassId) (a : Nat) (k : Nat) (h : k < 74) : (csX11 dA a)[piC.getD k k]? = (YC[k]?).map (fun h => wE dA (adC a) sg0 k h) := by
  match k, h with
  | 0, _ => rfl
  | 1, _ => rfl
  | 2, _ => rfl
  | 3, _ => rfl
  | 4, _ => rfl
  | 5, _ => rfl
  | 6, _ => rfl
  | 7, _ => rfl
  | 8, _ => rfl
  | 9, _ => rfl
  | 10, _ => rfl
  | 11, _ => rfl
  | 12, _ => rfl
  | 13, _ => rfl
  | 14, _ => rfl
  | 15, _ => rfl
  | 16, _ => rfl
  | 17, _ => rfl
  | 18, _ => rfl
  | 19, _ => rfl
  | 20, _ => rfl
  | 21, _ => rfl
  | 22, _ => rfl
  | 23, _ => rfl
  | 24, _ => rfl
  | 25, _ => rfl
  | 26, _ => rfl
  | 27, _ => rfl
  | 28, _ => rfl
  | 29, _ => rfl
  | 30, _ => rfl
  | 31, _ => rfl
  | 32, _ => exact congrArg (fun f => some (Sum.inl (dA 2, 1296, Sum.inr (Sum.inl f)) : va_E)) jz.symm
  | 33, _ => rfl
  | 34, _ => rfl
  | 35, _ => rfl
  | 36, _ => rfl
  | 37, _ => rfl
  | 38, _ => rfl
  | 39, _ => rfl
  | 40, _ => rfl
  | 41, _ => rfl
  | 42, _ => exact congrArg (fun f => some (Sum.inl (dA 2, 10, Sum.inr (Sum.inl f)) : va_E)) jz.symm
  | 43, _ => rfl
  | 44, _ => rfl
  | 45, _ => rfl
  | 46, _ => rfl
  | 47, _ => rfl
  | 48, _ => rfl
  | 49, _ => rfl
  | 50, _ => rfl
  | 51, _ => rfl
  | 52, _ => rfl
  | 53, _ => rfl
  | 54, _ => rfl
  | 55, _ => rfl
  | 56, _ => rfl
  | 57, _ => exact congrArg (fun f => some (Sum.inl (dA 2, 40, Sum.inr (Sum.inl f)) : va_E)) jz.symm
  | 58, _ => rfl
  | 59, _ => exact congrArg (fun f => some (Sum.inl (dA 2, 40, Sum.inr (Sum.inl f)) : va_E)) jz.symm
  | 60, _ => rfl
  | 61, _ => rfl
  | 62, _ => rfl
  | 63, _ => rfl
  | 64, _ => rfl
  | 65, _ => rfl
  | 66, _ => rfl
  | 67, _ => rfl
  | 68, _ => rfl
  | 69, _ => rfl
  | 70, _ => rfl
  | 71, _ => rfl
  | 72, _ => rfl
  | 73, _ => rfl
  | n + 74, h => exact absurd h (by omega)
theorem csX11_P {D : va_G} {dA : Nat → ClassId} {a : Nat} {H : Heap} (h : nP D a (csX11 dA a) H) : va_P D vwCl (wW dA (adC a) sg0 0 YC) H := by
  refine h.1.by (fun k => piC.getD k k) (fun k q hq => ?_)
  rw [wW_get] at hq
  have hk : k < 74 := by
    obtain ⟨x, hx, -⟩ := Option.map_eq_some_iff.mp hq
    exact (List.getElem?_eq_some_iff.mp hx).1
  have h1 := csX11_at dA a k hk
  rw [nWs_get, h1, Option.map_map]
  rw [Nat.zero_add] at hq
  exact hq
theorem adC_inj (a : Nat) : cD (adC a) YC := by
  intro i j hi hj h
  have hi : i < 74 := hi
  have hj : j < 74 := hj
  have h : piC.getD i i = piC.getD j j := by unfold adC at h; omega
  have hd : ∀ i : Fin 74, ∀ j : Fin 74, piC.getD i i = piC.getD j j → (i : Nat) = j := by decide +kernel
  exact hd ⟨i, hi⟩ ⟨j, hj⟩ h
theorem adC_ge (a k : Nat) : a ≤ adC a k := Nat.le_add_right _ _

def QX11 (D : va_G) (dA : Nat → ClassId) (a : Nat) : Array Value → State → Outcome → State → Prop := fun _ st oc t => oc = .returned none ∧ (∃ τ : St, stA sg0 3 4 τ ∧ va_P D vwCl (wW dA (adC a) τ 0 YC) t.heap) ∧ va_F (fun q => a ≤ q) st t
set_option maxHeartbeats 8000000 in
theorem C_X11 : nMa mX11_init 11 f0X11 7 73 74738 [] QX11 := by
  refine nMa.ofG (fun a => [some (.ref a), none]) (by decide) rfl (fun _ => Nat.le_of_ble_eq_true rfl) (fun _ => rfl) (fun g a hc hI hAO hr => ?_)
  refine gt_aload_n hc dX11_init_0 rfl rfl ?_
  refine nt_obj hc (by decide) dX11_init_1 (gw1 28 (by decide +kernel) rfl) oi_in oc_in ?_
  refine gt_aload_n hc dX11_init_4 rfl rfl ?_
  refine nt_new1 (b := a + 1) (ci := 0) (N := 7) (C := RX0) (T := TX0) (fs := f0X0) hc ⟨by rw [hr.1]; decide, by rw [hr.2]; decide⟩ rfl inG0 tyX0 tyX0_ok (gw1 31 (by decide +kernel) rfl) (gw1 32 (by decide +kernel) rfl) (gw1 2 (by decide +kernel) rfl) dfX0 dX11_init_5 rfl ?_
  refine gt_dup hc dX11_init_8 rfl ?_
  refine nt_call1 (n := 0) (b := a + 1) (tl' := [.inr (0, [.int 0, .int 0, .int 0, .ref (a + 2), .ref (a + 3), .ref (a + 4), .ref (a + 5)]), .inl (gdA g 0, 4096, .inl (fun _ => 0)), .inl (gdA g 0, 4096, .inl (fun _ => 0)), .inl (gdA g 0, 4096, .inl (fun _ => 0)), .inr (2, [.ref (a + 6), .int 0, .int 0]), .inl (gdA g 0, 5, .inl (fun _ => 0))]) hc (C_X0) (⟨cwX0_init, gw1 2 (by decide +kernel) rfl, gw1 34 (by decide +kernel) rfl, by decide, rfl, rfl, ⟨by decide, by decide, by decide +kernel⟩, Or.inr ⟨"PegCourt", tb_in 33 (by decide +kernel)⟩⟩) ⟨by rw [hr.1]; decide, by rw [hr.2]; decide⟩ (by decide) rfl rfl rfl rfl (Nat.le_of_ble_eq_true rfl) dX11_init_9 ?_
  refine nt_putF0 (j := 0) (fs' := [.ref (a + 1), .null, .null, .null, .null, .null, .null, .null, .null, .null, .null, .int 0]) hc hI rfl inG11 tyX11 tyX11_ok nmX11 (by decide) (gw1 500 (by decide +kernel) rfl) rfl rfl rfl rfl rfl rfl (Nat.le_of_ble_eq_true rfl) dX11_init_12 ?_
  refine gt_aload_n hc dX11_init_15 rfl rfl ?_
  refine nt_new1 (b := a + 7) (ci := 5) (N := 17) (C := RX5) (T := TX5) (fs := f0X5) hc ⟨by rw [hr.1]; decide, by rw [hr.2]; decide⟩ rfl inG5 tyX5 tyX5_ok (gw1 99 (by decide +kernel) rfl) (gw1 100 (by decide +kernel) rfl) (gw1 4 (by decide +kernel) rfl) dfX5 dX11_init_16 rfl ?_
  refine gt_dup hc dX11_init_19 rfl ?_
  refine gt_aload_n hc dX11_init_20 rfl rfl ?_
  refine nt_get0 (v := .ref (a + 1)) hc rfl inG11 (j := 0) (by decide) (gw1 500 (by decide +kernel) rfl) rfl dX11_init_21 ?_
  refine nt_call1 (n := 1) (b := a + 7) (tl' := [.inr (0, [.int 0, .int 0, .int 0, .ref (a + 2), .ref (a + 3), .ref (a + 4), .ref (a + 5)]), .inl (gdA g 0, 4096, .inl (fun _ => 0)), .inl (gdA g 0, 4096, .inl (fun _ => 0)), .inl (gdA g 0, 4096, .inl (fun _ => 0)), .inr (2, [.ref (a + 6), .int 0, .int 0]), .inl (gdA g 0, 5, .inl (fun _ => 0)), .inr (5, [.ref (a + 1), .ref (a + 8), .ref (a + 11), .ref (a + 12), .ref (a + 13), .ref (a + 14), .ref (a + 15), .ref (a + 16), .int 0, .int 0, .int 0, .int 0, .int 0, .int 0, .int 0, .int 0, .int 0]), .inr (6, [.ref (a + 9), .ref (a + 10), .int 0]), .inl (gdA g 1, 1024, .inl (fun _ => 0)), .inl (gdA g 0, 1024, .inl (fun _ => 0)), .inl (gdA g 0, 50, .inl (fun _ => 0)), .inl (gdA g 0, 10, .inl (fun _ => 0)), .inl (gdA g 1, 4096, .inl (fun _ => 0)), .inl (gdA g 1, 4096, .inl (fun _ => 0)), .inl (gdA g 0, 4096, .inl (fun _ => 0)), .inl (gdA g 0, 4096, .inl (fun _ => 0))]) hc (C_X5 (a + 1)) (⟨cwX5_init, gw1 4 (by decide +kernel) rfl, gw1 102 (by decide +kernel) rfl, by decide, rfl, rfl, ⟨by decide, by decide, by decide +kernel⟩, Or.inr ⟨"PegCourt", tb_in 101 (by decide +kernel)⟩⟩) ⟨by rw [hr.1]; decide, by rw [hr.2]; decide⟩ (by decide) rfl rfl rfl rfl (Nat.le_of_ble_eq_true rfl) dX11_init_24 ?_
  refine nt_putF0 (j := 1) (fs' := [.ref (a + 1), .ref (a + 7), .null, .null, .null, .null, .null, .null, .null, .null, .null, .int 0]) hc hI rfl inG11 tyX11 tyX11_ok nmX11 (by decide) (gw1 501 (by decide +kernel) rfl) rfl rfl rfl rfl rfl rfl (Nat.le_of_ble_eq_true rfl) dX11_init_27 ?_
  refine gt_aload_n hc dX11_init_30 rfl rfl ?_
  refine nt_new1 (b := a + 17) (ci := 2) (N := 3) (C := RX2) (T := TX2) (fs := f0X2) hc ⟨by rw [hr.1]; decide, by rw [hr.2]; decide⟩ rfl inG2 tyX2 tyX2_ok (gw1 203 (by decide +kernel) rfl) (gw1 38 (by decide +kernel) rfl) (gw1 3 (by decide +kernel) rfl) dfX2 dX11_init_31 rfl ?_
  refine gt_dup hc dX11_init_34 rfl ?_
  refine nt_call1 (n := 0) (b := a + 17) (tl' := [.inr (0, [.int 0, .int 0, .int 0, .ref (a + 2), .ref (a + 3), .ref (a + 4), .ref (a + 5)]), .inl (gdA g 0, 4096, .inl (fun _ => 0)), .inl (gdA g 0, 4096, .inl (fun _ => 0)), .inl (gdA g 0, 4096, .inl (fun _ => 0)), .inr (2, [.ref (a + 6), .int 0, .int 0]), .inl (gdA g 0, 5, .inl (fun _ => 0)), .inr (5, [.ref (a + 1), .ref (a + 8), .ref (a + 11), .ref (a + 12), .ref (a + 13), .ref (a + 14), .ref (a + 15), .ref (a + 16), .int 0, .int 0, .int 0, .int 0, .int 0, .int 0, .int 0, .int 0, .int 0]), .inr (6, [.ref (a + 9), .ref (a + 10), .int 0]), .inl (gdA g 1, 1024, .inl (fun _ => 0)), .inl (gdA g 0, 1024, .inl (fun _ => 0)), .inl (gdA g 0, 50, .inl (fun _ => 0)), .inl (gdA g 0, 10, .inl (fun _ => 0)), .inl (gdA g 1, 4096, .inl (fun _ => 0)), .inl (gdA g 1, 4096, .inl (fun _ => 0)), .inl (gdA g 0, 4096, .inl (fun _ => 0)), .inl (gdA g 0, 4096, .inl (fun _ => 0)), .inr (2, [.ref (a + 18), .int 0, .int 0]), .inl (gdA g 0, 5, .inl (fun _ => 0))]) hc (C_X2) (⟨cwX2_init, gw1 3 (by decide +kernel) rfl, gw1 40 (by decide +kernel) rfl, by decide, rfl, rfl, ⟨by decide, by decide, by decide +kernel⟩, Or.inr ⟨"PegCourt", tb_in 204 (by decide +kernel)⟩⟩) ⟨by rw [hr.1]; decide, by rw [hr.2]; decide⟩ (by decide) rfl rfl rfl rfl (Nat.le_of_ble_eq_true rfl) dX11_init_35 ?_
  refine nt_putF0 (j := 2) (fs' := [.ref (a + 1), .ref (a + 7), .ref (a + 17), .null, .null, .null, .null, .null, .null, .null, .null, .int 0]) hc hI rfl inG11 tyX11 tyX11_ok nmX11 (by decide) (gw1 502 (by decide +kernel) rfl) rfl rfl rfl rfl rfl rfl (Nat.le_of_ble_eq_true rfl) dX11_init_38 ?_
  refine gt_aload_n hc dX11_init_41 rfl rfl ?_
  refine nt_new1 (b := a + 19) (ci := 3) (N := 3) (C := RX3) (T := TX3) (fs := f0X3) hc ⟨by rw [hr.1]; decide, by rw [hr.2]; decide⟩ rfl inG3 tyX3 tyX3_ok (gw1 205 (by decide +kernel) rfl) (gw1 206 (by decide +kernel) rfl) (gw1 6 (by decide +kernel) rfl) dfX3 dX11_init_42 rfl ?_
  refine gt_dup hc dX11_init_45 rfl ?_
  refine nt_call1 (n := 0) (b := a + 19) (tl' := [.inr (0, [.int 0, .int 0, .int 0, .ref (a + 2), .ref (a + 3), .ref (a + 4), .ref (a + 5)]), .inl (gdA g 0, 4096, .inl (fun _ => 0)), .inl (gdA g 0, 4096, .inl (fun _ => 0)), .inl (gdA g 0, 4096, .inl (fun _ => 0)), .inr (2, [.ref (a + 6), .int 0, .int 0]), .inl (gdA g 0, 5, .inl (fun _ => 0)), .inr (5, [.ref (a + 1), .ref (a + 8), .ref (a + 11), .ref (a + 12), .ref (a + 13), .ref (a + 14), .ref (a + 15), .ref (a + 16), .int 0, .int 0, .int 0, .int 0, .int 0, .int 0, .int 0, .int 0, .int 0]), .inr (6, [.ref (a + 9), .ref (a + 10), .int 0]), .inl (gdA g 1, 1024, .inl (fun _ => 0)), .inl (gdA g 0, 1024, .inl (fun _ => 0)), .inl (gdA g 0, 50, .inl (fun _ => 0)), .inl (gdA g 0, 10, .inl (fun _ => 0)), .inl (gdA g 1, 4096, .inl (fun _ => 0)), .inl (gdA g 1, 4096, .inl (fun _ => 0)), .inl (gdA g 0, 4096, .inl (fun _ => 0)), .inl (gdA g 0, 4096, .inl (fun _ => 0)), .inr (2, [.ref (a + 18), .int 0, .int 0]), .inl (gdA g 0, 5, .inl (fun _ => 0)), .inr (3, [.ref (a + 20), .int 0, .int 0]), .inl (gdA g 0, 51, .inl (fun _ => 0))]) hc (C_X3) (⟨cwX3_init, gw1 6 (by decide +kernel) rfl, gw1 208 (by decide +kernel) rfl, by decide, rfl, rfl, ⟨by decide, by decide, by decide +kernel⟩, Or.inr ⟨"PegCourt", tb_in 207 (by decide +kernel)⟩⟩) ⟨by rw [hr.1]; decide, by rw [hr.2]; decide⟩ (by decide) rfl rfl rfl rfl (Nat.le_of_ble_eq_true rfl) dX11_init_46 ?_
  refine nt_putF0 (j := 3) (fs' := [.ref (a + 1), .ref (a + 7), .ref (a + 17), .ref (a + 19), .null, .null, .null, .null, .null, .null, .null, .int 0]) hc hI rfl inG11 tyX11 tyX11_ok nmX11 (by decide) (gw1 503 (by decide +kernel) rfl) rfl rfl rfl rfl rfl rfl (Nat.le_of_ble_eq_true rfl) dX11_init_49 ?_
  refine gt_aload_n hc dX11_init_52 rfl rfl ?_
  refine nt_new1 (b := a + 21) (ci := 8) (N := 5) (C := RX8) (T := TX8) (fs := f0X8) hc ⟨by rw [hr.1]; decide, by rw [hr.2]; decide⟩ rfl inG8 tyX8 tyX8_ok (gw1 225 (by decide +kernel) rfl) (gw1 226 (by decide +kernel) rfl) (gw1 7 (by decide +kernel) rfl) dfX8 dX11_init_53 rfl ?_
  refine gt_dup hc dX11_init_56 rfl ?_
  refine nt_call1 (n := 0) (b := a + 21) (tl' := [.inr (0, [.int 0, .int 0, .int 0, .ref (a + 2), .ref (a + 3), .ref (a + 4), .ref (a + 5)]), .inl (gdA g 0, 4096, .inl (fun _ => 0)), .inl (gdA g 0, 4096, .inl (fun _ => 0)), .inl (gdA g 0, 4096, .inl (fun _ => 0)), .inr (2, [.ref (a + 6), .int 0, .int 0]), .inl (gdA g 0, 5, .inl (fun _ => 0)), .inr (5, [.ref (a + 1), .ref (a + 8), .ref (a + 11), .ref (a + 12), .ref (a + 13), .ref (a + 14), .ref (a + 15), .ref (a + 16), .int 0, .int 0, .int 0, .int 0, .int 0, .int 0, .int 0, .int 0, .int 0]), .inr (6, [.ref (a + 9), .ref (a + 10), .int 0]), .inl (gdA g 1, 1024, .inl (fun _ => 0)), .inl (gdA g 0, 1024, .inl (fun _ => 0)), .inl (gdA g 0, 50, .inl (fun _ => 0)), .inl (gdA g 0, 10, .inl (fun _ => 0)), .inl (gdA g 1, 4096, .inl (fun _ => 0)), .inl (gdA g 1, 4096, .inl (fun _ => 0)), .inl (gdA g 0, 4096, .inl (fun _ => 0)), .inl (gdA g 0, 4096, .inl (fun _ => 0)), .inr (2, [.ref (a + 18), .int 0, .int 0]), .inl (gdA g 0, 5, .inl (fun _ => 0)), .inr (3, [.ref (a + 20), .int 0, .int 0]), .inl (gdA g 0, 51, .inl (fun _ => 0)), .inr (8, [.int 0, .int 0, .int 0, .int 0, .int (-1)])]) hc (C_X8) (⟨cwX8_init, gw1 7 (by decide +kernel) rfl, gw1 228 (by decide +kernel) rfl, by decide, rfl, rfl, ⟨by decide, by decide, by decide +kernel⟩, Or.inr ⟨"PegCourt", tb_in 227 (by decide +kernel)⟩⟩) ⟨by rw [hr.1]; decide, by rw [hr.2]; decide⟩ (by decide) rfl rfl rfl rfl (Nat.le_of_ble_eq_true rfl) dX11_init_57 ?_
  refine nt_putF0 (j := 4) (fs' := [.ref (a + 1), .ref (a + 7), .ref (a + 17), .ref (a + 19), .ref (a + 21), .null, .null, .null, .null, .null, .null, .int 0]) hc hI rfl inG11 tyX11 tyX11_ok nmX11 (by decide) (gw1 504 (by decide +kernel) rfl) rfl rfl rfl rfl rfl rfl (Nat.le_of_ble_eq_true rfl) dX11_init_60 ?_
  refine gt_aload_n hc dX11_init_63 rfl rfl ?_
  refine nt_new1 (b := a + 22) (ci := 10) (N := 4) (C := RX10) (T := TX10) (fs := f0X10) hc ⟨by rw [hr.1]; decide, by rw [hr.2]; decide⟩ rfl inG10 tyX10 tyX10_ok (gw1 251 (by decide +kernel) rfl) (gw1 252 (by decide +kernel) rfl) (gw1 8 (by decide +kernel) rfl) dfX10 dX11_init_64 rfl ?_
  refine gt_dup hc dX11_init_67 rfl ?_
  refine gt_aload_n hc dX11_init_68 rfl rfl ?_
  refine nt_get0 (v := .ref (a + 1)) hc rfl inG11 (j := 0) (by decide) (gw1 500 (by decide +kernel) rfl) rfl dX11_init_69 ?_
  refine nt_call1 (n := 1) (b := a + 22) (tl' := [.inr (0, [.int 0, .int 0, .int 0, .ref (a + 2), .ref (a + 3), .ref (a + 4), .ref (a + 5)]), .inl (gdA g 0, 4096, .inl (fun _ => 0)), .inl (gdA g 0, 4096, .inl (fun _ => 0)), .inl (gdA g 0, 4096, .inl (fun _ => 0)), .inr (2, [.ref (a + 6), .int 0, .int 0]), .inl (gdA g 0, 5, .inl (fun _ => 0)), .inr (5, [.ref (a + 1), .ref (a + 8), .ref (a + 11), .ref (a + 12), .ref (a + 13), .ref (a + 14), .ref (a + 15), .ref (a + 16), .int 0, .int 0, .int 0, .int 0, .int 0, .int 0, .int 0, .int 0, .int 0]), .inr (6, [.ref (a + 9), .ref (a + 10), .int 0]), .inl (gdA g 1, 1024, .inl (fun _ => 0)), .inl (gdA g 0, 1024, .inl (fun _ => 0)), .inl (gdA g 0, 50, .inl (fun _ => 0)), .inl (gdA g 0, 10, .inl (fun _ => 0)), .inl (gdA g 1, 4096, .inl (fun _ => 0)), .inl (gdA g 1, 4096, .inl (fun _ => 0)), .inl (gdA g 0, 4096, .inl (fun _ => 0)), .inl (gdA g 0, 4096, .inl (fun _ => 0)), .inr (2, [.ref (a + 18), .int 0, .int 0]), .inl (gdA g 0, 5, .inl (fun _ => 0)), .inr (3, [.ref (a + 20), .int 0, .int 0]), .inl (gdA g 0, 51, .inl (fun _ => 0)), .inr (8, [.int 0, .int 0, .int 0, .int 0, .int (-1)]), .inr (10, [.ref (a + 1), .ref (a + 23), .ref (a + 24), .ref (a + 25)]), .inl (gdA g 0, 4, .inl (fun _ => 0)), .inl (gdA g 0, 5, .inl (fun _ => 0)), .inl (gdA g 0, 4, .inl (fun _ => 0))]) hc (C_X10 (a + 1)) (⟨cwX10_init, gw1 8 (by decide +kernel) rfl, gw1 254 (by decide +kernel) rfl, by decide, rfl, rfl, ⟨by decide, by decide, by decide +kernel⟩, Or.inr ⟨"PegCourt", tb_in 253 (by decide +kernel)⟩⟩) ⟨by rw [hr.1]; decide, by rw [hr.2]; decide⟩ (by decide) rfl rfl rfl rfl (Nat.le_of_ble_eq_true rfl) dX11_init_72 ?_
  refine nt_putF0 (j := 5) (fs' := [.ref (a + 1), .ref (a + 7), .ref (a + 17), .ref (a + 19), .ref (a + 21), .ref (a + 22), .null, .null, .null, .null, .null, .int 0]) hc hI rfl inG11 tyX11 tyX11_ok nmX11 (by decide) (gw1 505 (by decide +kernel) rfl) rfl rfl rfl rfl rfl rfl (Nat.le_of_ble_eq_true rfl) dX11_init_75 ?_
  refine gt_aload_n hc dX11_init_78 rfl rfl ?_
  refine nt_new1 (b := a + 26) (ci := 1) (N := 15) (C := RX1) (T := TX1) (fs := f0X1) hc ⟨by rw [hr.1]; decide, by rw [hr.2]; decide⟩ rfl inG1 tyX1 tyX1_ok (gw1 270 (by decide +kernel) rfl) (gw1 271 (by decide +kernel) rfl) (gw1 9 (by decide +kernel) rfl) dfX1 dX11_init_79 rfl ?_
  refine gt_dup hc dX11_init_82 rfl ?_
  refine gt_aload_n hc dX11_init_83 rfl rfl ?_
  refine nt_get0 (v := .ref (a + 1)) hc rfl inG11 (j := 0) (by decide) (gw1 500 (by decide +kernel) rfl) rfl dX11_init_84 ?_
  refine gt_iconst (v := 1) hc dX11_init_87 (by decide) ?_
  refine nt_call1 (n := 2) (b := a + 26) (tl' := [.inr (0, [.int 0, .int 0, .int 0, .ref (a + 2), .ref (a + 3), .ref (a + 4), .ref (a + 5)]), .inl (gdA g 0, 4096, .inl (fun _ => 0)), .inl (gdA g 0, 4096, .inl (fun _ => 0)), .inl (gdA g 0, 4096, .inl (fun _ => 0)), .inr (2, [.ref (a + 6), .int 0, .int 0]), .inl (gdA g 0, 5, .inl (fun _ => 0)), .inr (5, [.ref (a + 1), .ref (a + 8), .ref (a + 11), .ref (a + 12), .ref (a + 13), .ref (a + 14), .ref (a + 15), .ref (a + 16), .int 0, .int 0, .int 0, .int 0, .int 0, .int 0, .int 0, .int 0, .int 0]), .inr (6, [.ref (a + 9), .ref (a + 10), .int 0]), .inl (gdA g 1, 1024, .inl (fun _ => 0)), .inl (gdA g 0, 1024, .inl (fun _ => 0)), .inl (gdA g 0, 50, .inl (fun _ => 0)), .inl (gdA g 0, 10, .inl (fun _ => 0)), .inl (gdA g 1, 4096, .inl (fun _ => 0)), .inl (gdA g 1, 4096, .inl (fun _ => 0)), .inl (gdA g 0, 4096, .inl (fun _ => 0)), .inl (gdA g 0, 4096, .inl (fun _ => 0)), .inr (2, [.ref (a + 18), .int 0, .int 0]), .inl (gdA g 0, 5, .inl (fun _ => 0)), .inr (3, [.ref (a + 20), .int 0, .int 0]), .inl (gdA g 0, 51, .inl (fun _ => 0)), .inr (8, [.int 0, .int 0, .int 0, .int 0, .int (-1)]), .inr (10, [.ref (a + 1), .ref (a + 23), .ref (a + 24), .ref (a + 25)]), .inl (gdA g 0, 4, .inl (fun _ => 0)), .inl (gdA g 0, 5, .inl (fun _ => 0)), .inl (gdA g 0, 4, .inl (fun _ => 0)), .inr (1, [.ref (a + 1), .int 1, .ref (a + 27), .int 0, .int 0, .int 0, .int 0, .ref (a + 30), .ref (a + 31), .ref (a + 32), .ref (a + 33), .ref (a + 34), .ref (a + 35), .ref (a + 28), .ref (a + 29)]), .inl (gdA g 0, 10, .inl (fun _ => 0)), .inl (gdA g 0, 51, .inl (fun _ => 0)), .inl (gdA g 0, 11264, .inl (fun _ => 0)), .inl (gdA g 0, 1296, .inl (fun _ => 0)), .inl (gdA g 0, 1296, .inl (fun _ => 0)), .inl (gdA g 0, 1296, .inl (fun _ => 0)), .inl (gdA g 0, 12960, .inl (fun _ => 0)), .inl (gdA g 2, 1296, .inr (.inl (fun _ => 0))), .inl (gdA g 0, 2048, .inl (fun _ => 0))]) hc (C_X1a (a + 1)) (⟨cwX1_init, gw1 9 (by decide +kernel) rfl, gw1 273 (by decide +kernel) rfl, by decide, rfl, rfl, ⟨by decide, by decide, by decide +kernel⟩, Or.inr ⟨"PegCourt", tb_in 272 (by decide +kernel)⟩⟩) ⟨by rw [hr.1]; decide, by rw [hr.2]; decide⟩ (by decide) rfl rfl rfl rfl (Nat.le_of_ble_eq_true rfl) dX11_init_88 ?_
  refine nt_putF0 (j := 6) (fs' := [.ref (a + 1), .ref (a + 7), .ref (a + 17), .ref (a + 19), .ref (a + 21), .ref (a + 22), .ref (a + 26), .null, .null, .null, .null, .int 0]) hc hI rfl inG11 tyX11 tyX11_ok nmX11 (by decide) (gw1 506 (by decide +kernel) rfl) rfl rfl rfl rfl rfl rfl (Nat.le_of_ble_eq_true rfl) dX11_init_91 ?_
  refine gt_aload_n hc dX11_init_94 rfl rfl ?_
  refine nt_new1 (b := a + 36) (ci := 1) (N := 15) (C := RX1) (T := TX1) (fs := f0X1) hc ⟨by rw [hr.1]; decide, by rw [hr.2]; decide⟩ rfl inG1 tyX1 tyX1_ok (gw1 270 (by decide +kernel) rfl) (gw1 271 (by decide +kernel) rfl) (gw1 9 (by decide +kernel) rfl) dfX1 dX11_init_95 rfl ?_
  refine gt_dup hc dX11_init_98 rfl ?_
  refine gt_aload_n hc dX11_init_99 rfl rfl ?_
  refine nt_get0 (v := .ref (a + 1)) hc rfl inG11 (j := 0) (by decide) (gw1 500 (by decide +kernel) rfl) rfl dX11_init_100 ?_
  refine gt_iconst (v := 0) hc dX11_init_103 (by decide) ?_
  refine nt_call1 (n := 2) (b := a + 36) (tl' := [.inr (0, [.int 0, .int 0, .int 0, .ref (a + 2), .ref (a + 3), .ref (a + 4), .ref (a + 5)]), .inl (gdA g 0, 4096, .inl (fun _ => 0)), .inl (gdA g 0, 4096, .inl (fun _ => 0)), .inl (gdA g 0, 4096, .inl (fun _ => 0)), .inr (2, [.ref (a + 6), .int 0, .int 0]), .inl (gdA g 0, 5, .inl (fun _ => 0)), .inr (5, [.ref (a + 1), .ref (a + 8), .ref (a + 11), .ref (a + 12), .ref (a + 13), .ref (a + 14), .ref (a + 15), .ref (a + 16), .int 0, .int 0, .int 0, .int 0, .int 0, .int 0, .int 0, .int 0, .int 0]), .inr (6, [.ref (a + 9), .ref (a + 10), .int 0]), .inl (gdA g 1, 1024, .inl (fun _ => 0)), .inl (gdA g 0, 1024, .inl (fun _ => 0)), .inl (gdA g 0, 50, .inl (fun _ => 0)), .inl (gdA g 0, 10, .inl (fun _ => 0)), .inl (gdA g 1, 4096, .inl (fun _ => 0)), .inl (gdA g 1, 4096, .inl (fun _ => 0)), .inl (gdA g 0, 4096, .inl (fun _ => 0)), .inl (gdA g 0, 4096, .inl (fun _ => 0)), .inr (2, [.ref (a + 18), .int 0, .int 0]), .inl (gdA g 0, 5, .inl (fun _ => 0)), .inr (3, [.ref (a + 20), .int 0, .int 0]), .inl (gdA g 0, 51, .inl (fun _ => 0)), .inr (8, [.int 0, .int 0, .int 0, .int 0, .int (-1)]), .inr (10, [.ref (a + 1), .ref (a + 23), .ref (a + 24), .ref (a + 25)]), .inl (gdA g 0, 4, .inl (fun _ => 0)), .inl (gdA g 0, 5, .inl (fun _ => 0)), .inl (gdA g 0, 4, .inl (fun _ => 0)), .inr (1, [.ref (a + 1), .int 1, .ref (a + 27), .int 0, .int 0, .int 0, .int 0, .ref (a + 30), .ref (a + 31), .ref (a + 32), .ref (a + 33), .ref (a + 34), .ref (a + 35), .ref (a + 28), .ref (a + 29)]), .inl (gdA g 0, 10, .inl (fun _ => 0)), .inl (gdA g 0, 51, .inl (fun _ => 0)), .inl (gdA g 0, 11264, .inl (fun _ => 0)), .inl (gdA g 0, 1296, .inl (fun _ => 0)), .inl (gdA g 0, 1296, .inl (fun _ => 0)), .inl (gdA g 0, 1296, .inl (fun _ => 0)), .inl (gdA g 0, 12960, .inl (fun _ => 0)), .inl (gdA g 2, 1296, .inr (.inl (fun _ => 0))), .inl (gdA g 0, 2048, .inl (fun _ => 0)), .inr (1, [.ref (a + 1), .int 0, .ref (a + 37), .int 0, .int 0, .int 0, .int 0, .ref (a + 40), .ref (a + 41), .ref (a + 42), .ref (a + 43), .ref (a + 44), .ref (a + 45), .ref (a + 38), .ref (a + 39)]), .inl (gdA g 0, 10, .inl (fun _ => 0)), .inl (gdA g 0, 51, .inl (fun _ => 0)), .inl (gdA g 0, 11264, .inl (fun _ => 0)), .inl (gdA g 0, 10, .inl (fun _ => 0)), .inl (gdA g 0, 10, .inl (fun _ => 0)), .inl (gdA g 0, 10, .inl (fun _ => 0)), .inl (gdA g 0, 100, .inl (fun _ => 0)), .inl (gdA g 2, 10, .inr (.inl (fun _ => 0))), .inl (gdA g 0, 0, .inl (fun _ => 0))]) hc (C_X1b (a + 1)) (⟨cwX1_init, gw1 9 (by decide +kernel) rfl, gw1 273 (by decide +kernel) rfl, by decide, rfl, rfl, ⟨by decide, by decide, by decide +kernel⟩, Or.inr ⟨"PegCourt", tb_in 272 (by decide +kernel)⟩⟩) ⟨by rw [hr.1]; decide, by rw [hr.2]; decide⟩ (by decide) rfl rfl rfl rfl (Nat.le_of_ble_eq_true rfl) dX11_init_104 ?_
  refine nt_putF0 (j := 7) (fs' := [.ref (a + 1), .ref (a + 7), .ref (a + 17), .ref (a + 19), .ref (a + 21), .ref (a + 22), .ref (a + 26), .ref (a + 36), .null, .null, .null, .int 0]) hc hI rfl inG11 tyX11 tyX11_ok nmX11 (by decide) (gw1 507 (by decide +kernel) rfl) rfl rfl rfl rfl rfl rfl (Nat.le_of_ble_eq_true rfl) dX11_init_107 ?_
  refine gt_aload_n hc dX11_init_110 rfl rfl ?_
  refine nt_new1 (b := a + 46) (ci := 9) (N := 6) (C := RX9) (T := TX9) (fs := f0X9) hc ⟨by rw [hr.1]; decide, by rw [hr.2]; decide⟩ rfl inG9 tyX9 tyX9_ok (gw1 323 (by decide +kernel) rfl) (gw1 324 (by decide +kernel) rfl) (gw1 10 (by decide +kernel) rfl) dfX9 dX11_init_111 rfl ?_
  refine gt_dup hc dX11_init_114 rfl ?_
  refine nt_call1 (n := 0) (b := a + 46) (tl' := [.inr (0, [.int 0, .int 0, .int 0, .ref (a + 2), .ref (a + 3), .ref (a + 4), .ref (a + 5)]), .inl (gdA g 0, 4096, .inl (fun _ => 0)), .inl (gdA g 0, 4096, .inl (fun _ => 0)), .inl (gdA g 0, 4096, .inl (fun _ => 0)), .inr (2, [.ref (a + 6), .int 0, .int 0]), .inl (gdA g 0, 5, .inl (fun _ => 0)), .inr (5, [.ref (a + 1), .ref (a + 8), .ref (a + 11), .ref (a + 12), .ref (a + 13), .ref (a + 14), .ref (a + 15), .ref (a + 16), .int 0, .int 0, .int 0, .int 0, .int 0, .int 0, .int 0, .int 0, .int 0]), .inr (6, [.ref (a + 9), .ref (a + 10), .int 0]), .inl (gdA g 1, 1024, .inl (fun _ => 0)), .inl (gdA g 0, 1024, .inl (fun _ => 0)), .inl (gdA g 0, 50, .inl (fun _ => 0)), .inl (gdA g 0, 10, .inl (fun _ => 0)), .inl (gdA g 1, 4096, .inl (fun _ => 0)), .inl (gdA g 1, 4096, .inl (fun _ => 0)), .inl (gdA g 0, 4096, .inl (fun _ => 0)), .inl (gdA g 0, 4096, .inl (fun _ => 0)), .inr (2, [.ref (a + 18), .int 0, .int 0]), .inl (gdA g 0, 5, .inl (fun _ => 0)), .inr (3, [.ref (a + 20), .int 0, .int 0]), .inl (gdA g 0, 51, .inl (fun _ => 0)), .inr (8, [.int 0, .int 0, .int 0, .int 0, .int (-1)]), .inr (10, [.ref (a + 1), .ref (a + 23), .ref (a + 24), .ref (a + 25)]), .inl (gdA g 0, 4, .inl (fun _ => 0)), .inl (gdA g 0, 5, .inl (fun _ => 0)), .inl (gdA g 0, 4, .inl (fun _ => 0)), .inr (1, [.ref (a + 1), .int 1, .ref (a + 27), .int 0, .int 0, .int 0, .int 0, .ref (a + 30), .ref (a + 31), .ref (a + 32), .ref (a + 33), .ref (a + 34), .ref (a + 35), .ref (a + 28), .ref (a + 29)]), .inl (gdA g 0, 10, .inl (fun _ => 0)), .inl (gdA g 0, 51, .inl (fun _ => 0)), .inl (gdA g 0, 11264, .inl (fun _ => 0)), .inl (gdA g 0, 1296, .inl (fun _ => 0)), .inl (gdA g 0, 1296, .inl (fun _ => 0)), .inl (gdA g 0, 1296, .inl (fun _ => 0)), .inl (gdA g 0, 12960, .inl (fun _ => 0)), .inl (gdA g 2, 1296, .inr (.inl (fun _ => 0))), .inl (gdA g 0, 2048, .inl (fun _ => 0)), .inr (1, [.ref (a + 1), .int 0, .ref (a + 37), .int 0, .int 0, .int 0, .int 0, .ref (a + 40), .ref (a + 41), .ref (a + 42), .ref (a + 43), .ref (a + 44), .ref (a + 45), .ref (a + 38), .ref (a + 39)]), .inl (gdA g 0, 10, .inl (fun _ => 0)), .inl (gdA g 0, 51, .inl (fun _ => 0)), .inl (gdA g 0, 11264, .inl (fun _ => 0)), .inl (gdA g 0, 10, .inl (fun _ => 0)), .inl (gdA g 0, 10, .inl (fun _ => 0)), .inl (gdA g 0, 10, .inl (fun _ => 0)), .inl (gdA g 0, 100, .inl (fun _ => 0)), .inl (gdA g 2, 10, .inr (.inl (fun _ => 0))), .inl (gdA g 0, 0, .inl (fun _ => 0)), .inr (9, [.ref (a + 47), .ref (a + 48), .ref (a + 49), .ref (a + 50), .ref (a + 51), .int 0]), .inl (gdA g 0, 20, .inl (fun _ => 0)), .inl (gdA g 0, 20, .inl (fun _ => 0)), .inl (gdA g 0, 20, .inl (fun _ => 0)), .inl (gdA g 0, 20, .inl (fun _ => 0)), .inl (gdA g 0, 20, .inl (fun _ => 0))]) hc (C_X9) (⟨cwX9_init, gw1 10 (by decide +kernel) rfl, gw1 326 (by decide +kernel) rfl, by decide, rfl, rfl, ⟨by decide, by decide, by decide +kernel⟩, Or.inr ⟨"PegCourt", tb_in 325 (by decide +kernel)⟩⟩) ⟨by rw [hr.1]; decide, by rw [hr.2]; decide⟩ (by decide) rfl rfl rfl rfl (Nat.le_of_ble_eq_true rfl) dX11_init_115 ?_
  refine nt_putF0 (j := 8) (fs' := [.ref (a + 1), .ref (a + 7), .ref (a + 17), .ref (a + 19), .ref (a + 21), .ref (a + 22), .ref (a + 26), .ref (a + 36), .ref (a + 46), .null, .null, .int 0]) hc hI rfl inG11 tyX11 tyX11_ok nmX11 (by decide) (gw1 508 (by decide +kernel) rfl) rfl rfl rfl rfl rfl rfl (Nat.le_of_ble_eq_true rfl) dX11_init_118 ?_
  refine gt_aload_n hc dX11_init_121 rfl rfl ?_
  refine nt_new1 (b := a + 52) (ci := 4) (N := 11) (C := RX4) (T := TX4) (fs := f0X4) hc ⟨by rw [hr.1]; decide, by rw [hr.2]; decide⟩ rfl inG4 tyX4 tyX4_ok (gw1 355 (by decide +kernel) rfl) (gw1 356 (by decide +kernel) rfl) (gw1 11 (by decide +kernel) rfl) dfX4 dX11_init_122 rfl ?_
  refine gt_dup hc dX11_init_125 rfl ?_
  refine nt_call1 (n := 0) (b := a + 52) (tl' := [.inr (0, [.int 0, .int 0, .int 0, .ref (a + 2), .ref (a + 3), .ref (a + 4), .ref (a + 5)]), .inl (gdA g 0, 4096, .inl (fun _ => 0)), .inl (gdA g 0, 4096, .inl (fun _ => 0)), .inl (gdA g 0, 4096, .inl (fun _ => 0)), .inr (2, [.ref (a + 6), .int 0, .int 0]), .inl (gdA g 0, 5, .inl (fun _ => 0)), .inr (5, [.ref (a + 1), .ref (a + 8), .ref (a + 11), .ref (a + 12), .ref (a + 13), .ref (a + 14), .ref (a + 15), .ref (a + 16), .int 0, .int 0, .int 0, .int 0, .int 0, .int 0, .int 0, .int 0, .int 0]), .inr (6, [.ref (a + 9), .ref (a + 10), .int 0]), .inl (gdA g 1, 1024, .inl (fun _ => 0)), .inl (gdA g 0, 1024, .inl (fun _ => 0)), .inl (gdA g 0, 50, .inl (fun _ => 0)), .inl (gdA g 0, 10, .inl (fun _ => 0)), .inl (gdA g 1, 4096, .inl (fun _ => 0)), .inl (gdA g 1, 4096, .inl (fun _ => 0)), .inl (gdA g 0, 4096, .inl (fun _ => 0)), .inl (gdA g 0, 4096, .inl (fun _ => 0)), .inr (2, [.ref (a + 18), .int 0, .int 0]), .inl (gdA g 0, 5, .inl (fun _ => 0)), .inr (3, [.ref (a + 20), .int 0, .int 0]), .inl (gdA g 0, 51, .inl (fun _ => 0)), .inr (8, [.int 0, .int 0, .int 0, .int 0, .int (-1)]), .inr (10, [.ref (a + 1), .ref (a + 23), .ref (a + 24), .ref (a + 25)]), .inl (gdA g 0, 4, .inl (fun _ => 0)), .inl (gdA g 0, 5, .inl (fun _ => 0)), .inl (gdA g 0, 4, .inl (fun _ => 0)), .inr (1, [.ref (a + 1), .int 1, .ref (a + 27), .int 0, .int 0, .int 0, .int 0, .ref (a + 30), .ref (a + 31), .ref (a + 32), .ref (a + 33), .ref (a + 34), .ref (a + 35), .ref (a + 28), .ref (a + 29)]), .inl (gdA g 0, 10, .inl (fun _ => 0)), .inl (gdA g 0, 51, .inl (fun _ => 0)), .inl (gdA g 0, 11264, .inl (fun _ => 0)), .inl (gdA g 0, 1296, .inl (fun _ => 0)), .inl (gdA g 0, 1296, .inl (fun _ => 0)), .inl (gdA g 0, 1296, .inl (fun _ => 0)), .inl (gdA g 0, 12960, .inl (fun _ => 0)), .inl (gdA g 2, 1296, .inr (.inl (fun _ => 0))), .inl (gdA g 0, 2048, .inl (fun _ => 0)), .inr (1, [.ref (a + 1), .int 0, .ref (a + 37), .int 0, .int 0, .int 0, .int 0, .ref (a + 40), .ref (a + 41), .ref (a + 42), .ref (a + 43), .ref (a + 44), .ref (a + 45), .ref (a + 38), .ref (a + 39)]), .inl (gdA g 0, 10, .inl (fun _ => 0)), .inl (gdA g 0, 51, .inl (fun _ => 0)), .inl (gdA g 0, 11264, .inl (fun _ => 0)), .inl (gdA g 0, 10, .inl (fun _ => 0)), .inl (gdA g 0, 10, .inl (fun _ => 0)), .inl (gdA g 0, 10, .inl (fun _ => 0)), .inl (gdA g 0, 100, .inl (fun _ => 0)), .inl (gdA g 2, 10, .inr (.inl (fun _ => 0))), .inl (gdA g 0, 0, .inl (fun _ => 0)), .inr (9, [.ref (a + 47), .ref (a + 48), .ref (a + 49), .ref (a + 50), .ref (a + 51), .int 0]), .inl (gdA g 0, 20, .inl (fun _ => 0)), .inl (gdA g 0, 20, .inl (fun _ => 0)), .inl (gdA g 0, 20, .inl (fun _ => 0)), .inl (gdA g 0, 20, .inl (fun _ => 0)), .inl (gdA g 0, 20, .inl (fun _ => 0)), .inr (4, [.ref (a + 53), .ref (a + 54), .ref (a + 55), .ref (a + 56), .ref (a + 57), .ref (a + 58), .ref (a + 59), .ref (a + 60), .int 0, .int 0, .int 0]), .inl (gdA g 0, 40, .inl (fun _ => 0)), .inl (gdA g 0, 40, .inl (fun _ => 0)), .inl (gdA g 0, 40, .inl (fun _ => 0)), .inl (gdA g 0, 40, .inl (fun _ => 0)), .inl (gdA g 2, 40, .inr (.inl (fun _ => 0))), .inl (gdA g 1, 40, .inl (fun _ => 0)), .inl (gdA g 2, 40, .inr (.inl (fun _ => 0))), .inl (gdA g 0, 40, .inl (fun _ => 0))]) hc (C_X4) (⟨cwX4_init, gw1 11 (by decide +kernel) rfl, gw1 358 (by decide +kernel) rfl, by decide, rfl, rfl, ⟨by decide, by decide, by decide +kernel⟩, Or.inr ⟨"PegCourt", tb_in 357 (by decide +kernel)⟩⟩) ⟨by rw [hr.1]; decide, by rw [hr.2]; decide⟩ (by decide) rfl rfl rfl rfl (Nat.le_of_ble_eq_true rfl) dX11_init_126 ?_
  refine nt_putF0 (j := 9) (fs' := [.ref (a + 1), .ref (a + 7), .ref (a + 17), .ref (a + 19), .ref (a + 21), .ref (a + 22), .ref (a + 26), .ref (a + 36), .ref (a + 46), .ref (a + 52), .null, .int 0]) hc hI rfl inG11 tyX11 tyX11_ok nmX11 (by decide) (gw1 509 (by decide +kernel) rfl) rfl rfl rfl rfl rfl rfl (Nat.le_of_ble_eq_true rfl) dX11_init_129 ?_
  refine gt_aload_n hc dX11_init_132 rfl rfl ?_
  refine gt_bipush (v := 6) hc dX11_init_133 (by decide) ?_
  refine nt_anew1 (b := a + 61) (N := 6) (tl' := [.inr (0, [.int 0, .int 0, .int 0, .ref (a + 2), .ref (a + 3), .ref (a + 4), .ref (a + 5)]), .inl (gdA g 0, 4096, .inl (fun _ => 0)), .inl (gdA g 0, 4096, .inl (fun _ => 0)), .inl (gdA g 0, 4096, .inl (fun _ => 0)), .inr (2, [.ref (a + 6), .int 0, .int 0]), .inl (gdA g 0, 5, .inl (fun _ => 0)), .inr (5, [.ref (a + 1), .ref (a + 8), .ref (a + 11), .ref (a + 12), .ref (a + 13), .ref (a + 14), .ref (a + 15), .ref (a + 16), .int 0, .int 0, .int 0, .int 0, .int 0, .int 0, .int 0, .int 0, .int 0]), .inr (6, [.ref (a + 9), .ref (a + 10), .int 0]), .inl (gdA g 1, 1024, .inl (fun _ => 0)), .inl (gdA g 0, 1024, .inl (fun _ => 0)), .inl (gdA g 0, 50, .inl (fun _ => 0)), .inl (gdA g 0, 10, .inl (fun _ => 0)), .inl (gdA g 1, 4096, .inl (fun _ => 0)), .inl (gdA g 1, 4096, .inl (fun _ => 0)), .inl (gdA g 0, 4096, .inl (fun _ => 0)), .inl (gdA g 0, 4096, .inl (fun _ => 0)), .inr (2, [.ref (a + 18), .int 0, .int 0]), .inl (gdA g 0, 5, .inl (fun _ => 0)), .inr (3, [.ref (a + 20), .int 0, .int 0]), .inl (gdA g 0, 51, .inl (fun _ => 0)), .inr (8, [.int 0, .int 0, .int 0, .int 0, .int (-1)]), .inr (10, [.ref (a + 1), .ref (a + 23), .ref (a + 24), .ref (a + 25)]), .inl (gdA g 0, 4, .inl (fun _ => 0)), .inl (gdA g 0, 5, .inl (fun _ => 0)), .inl (gdA g 0, 4, .inl (fun _ => 0)), .inr (1, [.ref (a + 1), .int 1, .ref (a + 27), .int 0, .int 0, .int 0, .int 0, .ref (a + 30), .ref (a + 31), .ref (a + 32), .ref (a + 33), .ref (a + 34), .ref (a + 35), .ref (a + 28), .ref (a + 29)]), .inl (gdA g 0, 10, .inl (fun _ => 0)), .inl (gdA g 0, 51, .inl (fun _ => 0)), .inl (gdA g 0, 11264, .inl (fun _ => 0)), .inl (gdA g 0, 1296, .inl (fun _ => 0)), .inl (gdA g 0, 1296, .inl (fun _ => 0)), .inl (gdA g 0, 1296, .inl (fun _ => 0)), .inl (gdA g 0, 12960, .inl (fun _ => 0)), .inl (gdA g 2, 1296, .inr (.inl (fun _ => 0))), .inl (gdA g 0, 2048, .inl (fun _ => 0)), .inr (1, [.ref (a + 1), .int 0, .ref (a + 37), .int 0, .int 0, .int 0, .int 0, .ref (a + 40), .ref (a + 41), .ref (a + 42), .ref (a + 43), .ref (a + 44), .ref (a + 45), .ref (a + 38), .ref (a + 39)]), .inl (gdA g 0, 10, .inl (fun _ => 0)), .inl (gdA g 0, 51, .inl (fun _ => 0)), .inl (gdA g 0, 11264, .inl (fun _ => 0)), .inl (gdA g 0, 10, .inl (fun _ => 0)), .inl (gdA g 0, 10, .inl (fun _ => 0)), .inl (gdA g 0, 10, .inl (fun _ => 0)), .inl (gdA g 0, 100, .inl (fun _ => 0)), .inl (gdA g 2, 10, .inr (.inl (fun _ => 0))), .inl (gdA g 0, 0, .inl (fun _ => 0)), .inr (9, [.ref (a + 47), .ref (a + 48), .ref (a + 49), .ref (a + 50), .ref (a + 51), .int 0]), .inl (gdA g 0, 20, .inl (fun _ => 0)), .inl (gdA g 0, 20, .inl (fun _ => 0)), .inl (gdA g 0, 20, .inl (fun _ => 0)), .inl (gdA g 0, 20, .inl (fun _ => 0)), .inl (gdA g 0, 20, .inl (fun _ => 0)), .inr (4, [.ref (a + 53), .ref (a + 54), .ref (a + 55), .ref (a + 56), .ref (a + 57), .ref (a + 58), .ref (a + 59), .ref (a + 60), .int 0, .int 0, .int 0]), .inl (gdA g 0, 40, .inl (fun _ => 0)), .inl (gdA g 0, 40, .inl (fun _ => 0)), .inl (gdA g 0, 40, .inl (fun _ => 0)), .inl (gdA g 0, 40, .inl (fun _ => 0)), .inl (gdA g 2, 40, .inr (.inl (fun _ => 0))), .inl (gdA g 1, 40, .inl (fun _ => 0)), .inl (gdA g 2, 40, .inr (.inl (fun _ => 0))), .inl (gdA g 0, 40, .inl (fun _ => 0)), .inl (gdA g 3, 6, .inr (.inr (.inr (.inr (fun _ => none)))))]) hc ⟨by rw [hr.1]; decide, by rw [hr.2]; decide⟩ (gw1 398 (by decide +kernel) rfl) hAO (by decide) (by decide) (by decide) dX11_init_135 rfl rfl ?_
  refine nt_putF0 (j := 10) (fs' := [.ref (a + 1), .ref (a + 7), .ref (a + 17), .ref (a + 19), .ref (a + 21), .ref (a + 22), .ref (a + 26), .ref (a + 36), .ref (a + 46), .ref (a + 52), .ref (a + 61), .int 0]) hc hI rfl inG11 tyX11 tyX11_ok nmX11 (by decide) (gw1 510 (by decide +kernel) rfl) rfl rfl rfl rfl rfl rfl (Nat.le_of_ble_eq_true rfl) dX11_init_138 ?_
  refine gW_cs (cs' := csP (gdA g) a ++ [.inl (gdA g 3, 6, .inr (.inr (.inr (.inr (fun _ => none)))))]) rfl ?_
  refine gt_iconst (v := 0) hc dX11_init_141 (by decide) ?_
  refine gt_istore_n hc dX11_init_142 rfl (by decide) rfl ?_
  refine gt_iload_n hc dX11_init_143 rfl rfl ?_
  refine gt_bipush (v := 6) hc dX11_init_144 (by decide) ?_
  refine gt_icmp_ge (tgt := 168) hc dX11_init_146 (by omega) (fun h => absurd h (by decide)) (fun _ => ?_)
  refine gt_aload_n hc dX11_init_149 rfl rfl ?_
  refine nt_get (v := .ref (a + 61)) (i := 0) hc rfl inG11 (j := 10) (by decide) (gw1 510 (by decide +kernel) rfl) rfl rfl rfl dX11_init_150 ?_
  refine gt_iload_n hc dX11_init_153 rfl rfl ?_
  refine nt_new (b := a + 62) (ci := 7) (N := 4) (C := RX7) (T := TX7) (fs := f0X7) hc ⟨by rw [hr.1]; decide, by rw [hr.2]; decide⟩ rfl inG7 tyX7 tyX7_ok (gw1 398 (by decide +kernel) rfl) (gw1 400 (by decide +kernel) rfl) (gw1 12 (by decide +kernel) rfl) dfX7 dX11_init_154 rfl ?_
  refine gt_dup hc dX11_init_157 rfl ?_
  refine nt_call (n := 0) (b := a + 62) hc (C_X7) (⟨cwX7_init, gw1 12 (by decide +kernel) rfl, gw1 402 (by decide +kernel) rfl, by decide, rfl, rfl, ⟨by decide, by decide, by decide +kernel⟩, Or.inr ⟨"PegCourt", tb_in 401 (by decide +kernel)⟩⟩) ⟨by rw [hr.1]; decide, by rw [hr.2]; decide⟩ (by decide) rfl rfl rfl (Nat.le_of_ble_eq_true rfl) dX11_init_158 ?_
  refine gW_cs (cs' := csP (gdA g) a ++ .inl (gdA g 3, 6, .inr (.inr (.inr (.inr (fun _ => none))))) :: [.inr (7, [.ref (a + 63), .int 0, .int 0, .int 0]), .inl (gdA g 0, 60, .inl (fun _ => 0))]) (by rw [List.append_assoc]; rfl) ?_
  refine nt_aast2 (i := 61) (i2 := 62) hc rfl rfl rfl rfl rfl (by unfold vp_in; decide) dX11_init_161 ?_
  refine gt_iinc (v := 1) hc dX11_init_162 rfl (by decide) (by decide) rfl ?_
  refine gt_goto (tgt := 143) hc dX11_init_165 (by omega) ?_
  refine gt_iload_n hc dX11_init_143 rfl rfl ?_
  refine gt_bipush (v := 6) hc dX11_init_144 (by decide) ?_
  refine gt_icmp_ge (tgt := 168) hc dX11_init_146 (by omega) (fun h => absurd h (by decide)) (fun _ => ?_)
  refine gt_aload_n hc dX11_init_149 rfl rfl ?_
  refine nt_get (v := .ref (a + 61)) (i := 0) hc rfl inG11 (j := 10) (by decide) (gw1 510 (by decide +kernel) rfl) rfl rfl rfl dX11_init_150 ?_
  refine gt_iload_n hc dX11_init_153 rfl rfl ?_
  refine nt_new (b := a + 64) (ci := 7) (N := 4) (C := RX7) (T := TX7) (fs := f0X7) hc ⟨by rw [hr.1]; decide, by rw [hr.2]; decide⟩ rfl inG7 tyX7 tyX7_ok (gw1 398 (by decide +kernel) rfl) (gw1 400 (by decide +kernel) rfl) (gw1 12 (by decide +kernel) rfl) dfX7 dX11_init_154 rfl ?_
  refine gt_dup hc dX11_init_157 rfl ?_
  refine nt_call (n := 0) (b := a + 64) hc (C_X7) (⟨cwX7_init, gw1 12 (by decide +kernel) rfl, gw1 402 (by decide +kernel) rfl, by decide, rfl, rfl, ⟨by decide, by decide, by decide +kernel⟩, Or.inr ⟨"PegCourt", tb_in 401 (by decide +kernel)⟩⟩) ⟨by rw [hr.1]; decide, by rw [hr.2]; decide⟩ (by decide) rfl rfl rfl (Nat.le_of_ble_eq_true rfl) dX11_init_158 ?_
  refine gW_cs (cs' := csP (gdA g) a ++ .inl (gdA g 3, 6, .inr (.inr (.inr (.inr (va_up (fun _ => none) 0 (some (a + 62))))))) :: [.inr (7, [.ref (a + 63), .int 0, .int 0, .int 0]), .inl (gdA g 0, 60, .inl (fun _ => 0)), .inr (7, [.ref (a + 65), .int 0, .int 0, .int 0]), .inl (gdA g 0, 60, .inl (fun _ => 0))]) (by rw [List.append_assoc]; rfl) ?_
  refine nt_aast2 (i := 61) (i2 := 64) hc rfl rfl rfl rfl rfl (by unfold vp_in; decide) dX11_init_161 ?_
  refine gt_iinc (v := 2) hc dX11_init_162 rfl (by decide) (by decide) rfl ?_
  refine gt_goto (tgt := 143) hc dX11_init_165 (by omega) ?_
  refine gt_iload_n hc dX11_init_143 rfl rfl ?_
  refine gt_bipush (v := 6) hc dX11_init_144 (by decide) ?_
  refine gt_icmp_ge (tgt := 168) hc dX11_init_146 (by omega) (fun h => absurd h (by decide)) (fun _ => ?_)
  refine gt_aload_n hc dX11_init_149 rfl rfl ?_
  refine nt_get (v := .ref (a + 61)) (i := 0) hc rfl inG11 (j := 10) (by decide) (gw1 510 (by decide +kernel) rfl) rfl rfl rfl dX11_init_150 ?_
  refine gt_iload_n hc dX11_init_153 rfl rfl ?_
  refine nt_new (b := a + 66) (ci := 7) (N := 4) (C := RX7) (T := TX7) (fs := f0X7) hc ⟨by rw [hr.1]; decide, by rw [hr.2]; decide⟩ rfl inG7 tyX7 tyX7_ok (gw1 398 (by decide +kernel) rfl) (gw1 400 (by decide +kernel) rfl) (gw1 12 (by decide +kernel) rfl) dfX7 dX11_init_154 rfl ?_
  refine gt_dup hc dX11_init_157 rfl ?_
  refine nt_call (n := 0) (b := a + 66) hc (C_X7) (⟨cwX7_init, gw1 12 (by decide +kernel) rfl, gw1 402 (by decide +kernel) rfl, by decide, rfl, rfl, ⟨by decide, by decide, by decide +kernel⟩, Or.inr ⟨"PegCourt", tb_in 401 (by decide +kernel)⟩⟩) ⟨by rw [hr.1]; decide, by rw [hr.2]; decide⟩ (by decide) rfl rfl rfl (Nat.le_of_ble_eq_true rfl) dX11_init_158 ?_
  refine gW_cs (cs' := csP (gdA g) a ++ .inl (gdA g 3, 6, .inr (.inr (.inr (.inr (va_up (va_up (fun _ => none) 0 (some (a + 62))) 1 (some (a + 64))))))) :: [.inr (7, [.ref (a + 63), .int 0, .int 0, .int 0]), .inl (gdA g 0, 60, .inl (fun _ => 0)), .inr (7, [.ref (a + 65), .int 0, .int 0, .int 0]), .inl (gdA g 0, 60, .inl (fun _ => 0)), .inr (7, [.ref (a + 67), .int 0, .int 0, .int 0]), .inl (gdA g 0, 60, .inl (fun _ => 0))]) (by rw [List.append_assoc]; rfl) ?_
  refine nt_aast2 (i := 61) (i2 := 66) hc rfl rfl rfl rfl rfl (by unfold vp_in; decide) dX11_init_161 ?_
  refine gt_iinc (v := 3) hc dX11_init_162 rfl (by decide) (by decide) rfl ?_
  refine gt_goto (tgt := 143) hc dX11_init_165 (by omega) ?_
  refine gt_iload_n hc dX11_init_143 rfl rfl ?_
  refine gt_bipush (v := 6) hc dX11_init_144 (by decide) ?_
  refine gt_icmp_ge (tgt := 168) hc dX11_init_146 (by omega) (fun h => absurd h (by decide)) (fun _ => ?_)
  refine gt_aload_n hc dX11_init_149 rfl rfl ?_
  refine nt_get (v := .ref (a + 61)) (i := 0) hc rfl inG11 (j := 10) (by decide) (gw1 510 (by decide +kernel) rfl) rfl rfl rfl dX11_init_150 ?_
  refine gt_iload_n hc dX11_init_153 rfl rfl ?_
  refine nt_new (b := a + 68) (ci := 7) (N := 4) (C := RX7) (T := TX7) (fs := f0X7) hc ⟨by rw [hr.1]; decide, by rw [hr.2]; decide⟩ rfl inG7 tyX7 tyX7_ok (gw1 398 (by decide +kernel) rfl) (gw1 400 (by decide +kernel) rfl) (gw1 12 (by decide +kernel) rfl) dfX7 dX11_init_154 rfl ?_
  refine gt_dup hc dX11_init_157 rfl ?_
  refine nt_call (n := 0) (b := a + 68) hc (C_X7) (⟨cwX7_init, gw1 12 (by decide +kernel) rfl, gw1 402 (by decide +kernel) rfl, by decide, rfl, rfl, ⟨by decide, by decide, by decide +kernel⟩, Or.inr ⟨"PegCourt", tb_in 401 (by decide +kernel)⟩⟩) ⟨by rw [hr.1]; decide, by rw [hr.2]; decide⟩ (by decide) rfl rfl rfl (Nat.le_of_ble_eq_true rfl) dX11_init_158 ?_
  refine gW_cs (cs' := csP (gdA g) a ++ .inl (gdA g 3, 6, .inr (.inr (.inr (.inr (va_up (va_up (va_up (fun _ => none) 0 (some (a + 62))) 1 (some (a + 64))) 2 (some (a + 66))))))) :: [.inr (7, [.ref (a + 63), .int 0, .int 0, .int 0]), .inl (gdA g 0, 60, .inl (fun _ => 0)), .inr (7, [.ref (a + 65), .int 0, .int 0, .int 0]), .inl (gdA g 0, 60, .inl (fun _ => 0)), .inr (7, [.ref (a + 67), .int 0, .int 0, .int 0]), .inl (gdA g 0, 60, .inl (fun _ => 0)), .inr (7, [.ref (a + 69), .int 0, .int 0, .int 0]), .inl (gdA g 0, 60, .inl (fun _ => 0))]) (by rw [List.append_assoc]; rfl) ?_
  refine nt_aast2 (i := 61) (i2 := 68) hc rfl rfl rfl rfl rfl (by unfold vp_in; decide) dX11_init_161 ?_
  refine gt_iinc (v := 4) hc dX11_init_162 rfl (by decide) (by decide) rfl ?_
  refine gt_goto (tgt := 143) hc dX11_init_165 (by omega) ?_
  refine gt_iload_n hc dX11_init_143 rfl rfl ?_
  refine gt_bipush (v := 6) hc dX11_init_144 (by decide) ?_
  refine gt_icmp_ge (tgt := 168) hc dX11_init_146 (by omega) (fun h => absurd h (by decide)) (fun _ => ?_)
  refine gt_aload_n hc dX11_init_149 rfl rfl ?_
  refine nt_get (v := .ref (a + 61)) (i := 0) hc rfl inG11 (j := 10) (by decide) (gw1 510 (by decide +kernel) rfl) rfl rfl rfl dX11_init_150 ?_
  refine gt_iload_n hc dX11_init_153 rfl rfl ?_
  refine nt_new (b := a + 70) (ci := 7) (N := 4) (C := RX7) (T := TX7) (fs := f0X7) hc ⟨by rw [hr.1]; decide, by rw [hr.2]; decide⟩ rfl inG7 tyX7 tyX7_ok (gw1 398 (by decide +kernel) rfl) (gw1 400 (by decide +kernel) rfl) (gw1 12 (by decide +kernel) rfl) dfX7 dX11_init_154 rfl ?_
  refine gt_dup hc dX11_init_157 rfl ?_
  refine nt_call (n := 0) (b := a + 70) hc (C_X7) (⟨cwX7_init, gw1 12 (by decide +kernel) rfl, gw1 402 (by decide +kernel) rfl, by decide, rfl, rfl, ⟨by decide, by decide, by decide +kernel⟩, Or.inr ⟨"PegCourt", tb_in 401 (by decide +kernel)⟩⟩) ⟨by rw [hr.1]; decide, by rw [hr.2]; decide⟩ (by decide) rfl rfl rfl (Nat.le_of_ble_eq_true rfl) dX11_init_158 ?_
  refine gW_cs (cs' := csP (gdA g) a ++ .inl (gdA g 3, 6, .inr (.inr (.inr (.inr (va_up (va_up (va_up (va_up (fun _ => none) 0 (some (a + 62))) 1 (some (a + 64))) 2 (some (a + 66))) 3 (some (a + 68))))))) :: [.inr (7, [.ref (a + 63), .int 0, .int 0, .int 0]), .inl (gdA g 0, 60, .inl (fun _ => 0)), .inr (7, [.ref (a + 65), .int 0, .int 0, .int 0]), .inl (gdA g 0, 60, .inl (fun _ => 0)), .inr (7, [.ref (a + 67), .int 0, .int 0, .int 0]), .inl (gdA g 0, 60, .inl (fun _ => 0)), .inr (7, [.ref (a + 69), .int 0, .int 0, .int 0]), .inl (gdA g 0, 60, .inl (fun _ => 0)), .inr (7, [.ref (a + 71), .int 0, .int 0, .int 0]), .inl (gdA g 0, 60, .inl (fun _ => 0))]) (by rw [List.append_assoc]; rfl) ?_
  refine nt_aast2 (i := 61) (i2 := 70) hc rfl rfl rfl rfl rfl (by unfold vp_in; decide) dX11_init_161 ?_
  refine gt_iinc (v := 5) hc dX11_init_162 rfl (by decide) (by decide) rfl ?_
  refine gt_goto (tgt := 143) hc dX11_init_165 (by omega) ?_
  refine gt_iload_n hc dX11_init_143 rfl rfl ?_
  refine gt_bipush (v := 6) hc dX11_init_144 (by decide) ?_
  refine gt_icmp_ge (tgt := 168) hc dX11_init_146 (by omega) (fun h => absurd h (by decide)) (fun _ => ?_)
  refine gt_aload_n hc dX11_init_149 rfl rfl ?_
  refine nt_get (v := .ref (a + 61)) (i := 0) hc rfl inG11 (j := 10) (by decide) (gw1 510 (by decide +kernel) rfl) rfl rfl rfl dX11_init_150 ?_
  refine gt_iload_n hc dX11_init_153 rfl rfl ?_
  refine nt_new (b := a + 72) (ci := 7) (N := 4) (C := RX7) (T := TX7) (fs := f0X7) hc ⟨by rw [hr.1]; decide, by rw [hr.2]; decide⟩ rfl inG7 tyX7 tyX7_ok (gw1 398 (by decide +kernel) rfl) (gw1 400 (by decide +kernel) rfl) (gw1 12 (by decide +kernel) rfl) dfX7 dX11_init_154 rfl ?_
  refine gt_dup hc dX11_init_157 rfl ?_
  refine nt_call (n := 0) (b := a + 72) hc (C_X7) (⟨cwX7_init, gw1 12 (by decide +kernel) rfl, gw1 402 (by decide +kernel) rfl, by decide, rfl, rfl, ⟨by decide, by decide, by decide +kernel⟩, Or.inr ⟨"PegCourt", tb_in 401 (by decide +kernel)⟩⟩) ⟨by rw [hr.1]; decide, by rw [hr.2]; decide⟩ (by decide) rfl rfl rfl (Nat.le_of_ble_eq_true rfl) dX11_init_158 ?_
  refine gW_cs (cs' := csP (gdA g) a ++ .inl (gdA g 3, 6, .inr (.inr (.inr (.inr (va_up (va_up (va_up (va_up (va_up (fun _ => none) 0 (some (a + 62))) 1 (some (a + 64))) 2 (some (a + 66))) 3 (some (a + 68))) 4 (some (a + 70))))))) :: [.inr (7, [.ref (a + 63), .int 0, .int 0, .int 0]), .inl (gdA g 0, 60, .inl (fun _ => 0)), .inr (7, [.ref (a + 65), .int 0, .int 0, .int 0]), .inl (gdA g 0, 60, .inl (fun _ => 0)), .inr (7, [.ref (a + 67), .int 0, .int 0, .int 0]), .inl (gdA g 0, 60, .inl (fun _ => 0)), .inr (7, [.ref (a + 69), .int 0, .int 0, .int 0]), .inl (gdA g 0, 60, .inl (fun _ => 0)), .inr (7, [.ref (a + 71), .int 0, .int 0, .int 0]), .inl (gdA g 0, 60, .inl (fun _ => 0)), .inr (7, [.ref (a + 73), .int 0, .int 0, .int 0]), .inl (gdA g 0, 60, .inl (fun _ => 0))]) (by rw [List.append_assoc]; rfl) ?_
  refine nt_aast2 (i := 61) (i2 := 72) hc rfl rfl rfl rfl rfl (by unfold vp_in; decide) dX11_init_161 ?_
  refine gt_iinc (v := 6) hc dX11_init_162 rfl (by decide) (by decide) rfl ?_
  refine gt_goto (tgt := 143) hc dX11_init_165 (by omega) ?_
  refine gt_iload_n hc dX11_init_143 rfl rfl ?_
  refine gt_bipush (v := 6) hc dX11_init_144 (by decide) ?_
  refine gt_icmp_ge (tgt := 168) hc dX11_init_146 (by omega) (fun _ => ?_) (fun h => absurd (by decide) h)
  refine gW_cs (cs' := csX11 (gdA g) a) ?_ ?_
  · exact Eq.trans (show _ = csX11r (gdA g) a from rfl) (csX11_eq (gdA g) a)
  refine gt_aload_n hc dX11_init_168 rfl rfl ?_
  refine gt_iconst (v := 3) hc dX11_init_169 (by decide) ?_
  refine gt_iconst (v := 4) hc dX11_init_170 (by decide) ?_
  obtain ⟨p, l, e, R, s, m, args, below, meth, c, D, dA, ad⟩ := g
  obtain ⟨hx, hb, hml, hrt, hlk, hown, hts, hK, hD, hR, hN⟩ := id hc
  subst hD
  intro H locs ls hP hS hl
  have hP1 := csX11_P hP
  have hM := C11_startAnew 0 sg0 (P := 3) (C := 4) (sz_of (by decide) (by decide) (by decide) (by decide) (by decide)) (by decide) l D dA (adC a)
  have hGd : GoodIn gw (Cond.code yX11_startAnew cX11_startAnew mX11_startAnew.2.2.1 none :: gw) := gw_good (fun w hw => by rcases List.mem_cons.mp hw with rfl | hw; exact cwX11_startAnew; exact hw)
  have hpre : PreV s H RX11 a (cP D dA (adC a) YC [.ref 0, .int (nI 3), .int (nI 4)] sg0) [.int 3, .int 4] := ⟨cP_blind, va_recv hK hP1 (q := (RX11, TX11, 12)) rfl (wW_at (k := 0) (σ := sg0) (ad := adC a) (dA := dA) yc0), fun U hU hW => ⟨rfl, by rw [hU]; exact hP1, va_K.moved hW.alike hK, adC_inj a, hN.warm hW⟩⟩
  obtain ⟨-, h2, h3, h4, h5, h6, h7, h8⟩ := mvX11_86
  have key : va_Run p l e R s m args below meth c H locs 73 74738 0 0 (F0 m 171 ls [.int 4, .int 3, .ref a]) [] (cQ D dA (adC a) YC (fun r τ => r = none ∧ stA sg0 3 4 τ) #[.ref a, .int 3, .int 4]) (cA (adC a) YC) := by
    rcases h8 with h8 | ⟨host, h8⟩
    · refine va_runV (As := [.int 3, .int 4]) ⟨hx, hb, hml, hown, hts⟩ hM (cwV 2 hts (gw_good (fun w hw => ?_)) rfl rfl rfl ⟨rfl, h7⟩ (by obtain ⟨r1, r2⟩ := hR; simp only [rmD]; omega)) hpre rfl rfl hl.1 rfl (lv_room (by decide)) dX11_init_171 ⟨by rw [show R.cells = _ from hr.1]; decide, by rw [show R.slots = _ from hr.2]; decide⟩
      rcases List.mem_append.mp hw with hw | hw
      · simp only [List.mem_cons, List.not_mem_nil, or_false] at hw
        rcases hw with rfl | rfl | rfl | rfl
        · exact h8
        · exact h4
        · exact h5
        · exact h3
      · exact (hGd w hw).1
    · exact va_runVN (As := [.int 3, .int 4]) (C := RX11) ⟨hx, hb, hml, hown, hts⟩ hM ⟨va_cnB 2 hts hGd rfl rfl rfl (hN _ h8 rfl) (hts _ h3) h7 (by obtain ⟨r1, r2⟩ := hR; simp only [rmD]; omega), hts _ h4, hts _ h5⟩ hpre rfl rfl hl.1 rfl (lv_room (by decide)) dX11_init_171 ⟨by rw [show R.cells = _ from hr.1]; decide, by rw [show R.slots = _ from hr.2]; decide⟩
  intro T hT X
  obtain ⟨v, st₀, t, T', L, h0, X', hL, e1, e2, ⟨⟨r, τ, hv, ⟨rfl, hp⟩, hb2⟩, hz, hk⟩, stp⟩ := key T hT X
  cases hv
  rw [h0] at hz hk
  have hcA : ∀ q, q < a → ¬ cA (adC a) YC q := fun q hq hz => by obtain ⟨k, -, rfl⟩ := hz; have := adC_ge a k; omega
  have hS' : va_S (fun q => a ≤ q) s.heap T'.heap (locs ++ L) := ⟨Nat.le_trans hS.1 (by rw [e1]; exact hz), fun q h1 h2 => by rw [e1, hk q (Nat.lt_of_lt_of_le h1 hS.1) (hcA q (Nat.lt_of_not_le h2))]; exact hS.2.1 q h1 h2, fun q hq => by
      rcases List.mem_append.mp hq with h | h
      · exact hS.2.2 q h
      · obtain ⟨k, -, hk⟩ := hL q h; rw [hk]; exact adC_ge a k⟩
  obtain ⟨t2, a1, b1⟩ := (show W p l e R s m args below meth c T'.heap (locs ++ L) (73 + 0) (74738 + 0) (MQ below (QX11 D dA a) args s 73 74738 (fun q => a ≤ q)) (F0 m 174 ls []) from W.vret hx hb hrt (fun t9 ht hW => ⟨rfl, ⟨τ, hp, by rw [ht, e1]; exact hb2⟩, hS'.F ht⟩) hS'.2.2 dX11_init_174 hlk) T' rfl X'
  exact ⟨t2, stp t2 a1, b1⟩
