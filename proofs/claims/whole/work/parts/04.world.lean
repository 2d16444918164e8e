def clC : Cl := fun d a kd n x y => match kd with
  | 0 => .inr (11, [.ref (a 1 0), .ref (a 2 0), .ref (a 3 0), .ref (a 4 0), .ref (a 5 0), .ref (a 6 0), .int (x 6), .int (x 7), .long (y 8), .long (y 9)])
  | 1 => .inl (d 3, 6, .inr (.inr (.inr (.inr (fun j => some (a 18 j))))))
  | 2 => .inl (d 4, 4, .inr (.inr (.inr (.inr (fun j => some (a 20 j))))))
  | 3 => .inr (1, [.ref (a 7 0), .ref (a 10 0), .ref (a 14 0), .int (x 3), .ref (a 15 0), .int (x 5), .ref (a 16 0), .int (x 7)])
  | 4 => .inr (6, [.ref (a 17 0), .int (x 1), .int (x 2), .int (x 3), .ref (a 3 0)])
  | 5 => .inr (2, [.int (x 0), .ref (a 3 0)])
  | 6 => .inl (d 0, 6, .inl x)
  | 7 => .inr (8, [.ref (a 8 0), .ref (a 9 0)])
  | 8 => .inl (d 0, 244, .inl x)
  | 9 => .inl (d 0, 244, .inl x)
  | 10 => .inr (0, [.int (x 0), .int (x 1), .int (x 2), .ref (a 11 0), .int (x 4), .int (x 5), .int (x 6), .int (x 7), .int (x 8), .ref (a 7 0), .ref (a 12 0), .ref (a 13 0)])
  | 11 => .inl (d 0, 244, .inl x)
  | 12 => .inl (d 0, 244, .inl x)
  | 13 => .inl (d 0, 244, .inl x)
  | 14 => .inl (d 0, 12, .inl x)
  | 15 => .inl (d 5, 8, .inr (.inr (.inr (.inr (fun j => some (a 22 j))))))
  | 16 => .inl (d 6, 24, .inr (.inr (.inr (.inr (fun j => some (a 26 j))))))
  | 17 => .inl (d 7, 40, .inr (.inr (.inr (.inr (fun j => some (a 28 j))))))
  | 18 => .inr (7, [.ref (a 19 n), .int (x 1)])
  | 19 => .inl (d 0, 40, .inl x)
  | 20 => .inr (10, [.ref (a 21 n), .int (x 1), .int (x 2), .int (x 3)])
  | 21 => .inl (d 1, 40, .inl x)
  | 22 => .inr (3, [.int (x 0), .int (x 1), .int (x 2), .int (x 3), .ref (a 23 n), .int (x 5), .ref (a 24 n)])
  | 23 => .inl (d 0, 9, .inl x)
  | 24 => .inr (4, [.int (x 0), .int (x 1), .int (x 2), .int (x 3), .ref (a 25 n), .int (x 5), .int (x 6), .int (x 7)])
  | 25 => .inl (d 0, 244, .inl x)
  | 26 => .inr (9, [.int (x 0), .int (x 1), .int (x 2), .int (x 3), .int (x 4), .ref (a 27 n)])
  | 27 => .inl (d 0, 5, .inl x)
  | 28 => .inr (5, [.int (x 0), .int (x 1), .int (x 2), .int (x 3)])
  | _ => .inr (0, [])
theorem clC_0 (d : Nat → ClassId) (a : Nat → Nat → Nat) (n : Nat) (x : Nat → Int32) (y : Nat → Int64) : clC d a 0 n x y = .inr (11, [.ref (a 1 0), .ref (a 2 0), .ref (a 3 0), .ref (a 4 0), .ref (a 5 0), .ref (a 6 0), .int (x 6), .int (x 7), .long (y 8), .long (y 9)]) := rfl
theorem clC_1 (d : Nat → ClassId) (a : Nat → Nat → Nat) (n : Nat) (x : Nat → Int32) (y : Nat → Int64) : clC d a 1 n x y = .inl (d 3, 6, .inr (.inr (.inr (.inr (fun j => some (a 18 j)))))) := rfl
theorem clC_2 (d : Nat → ClassId) (a : Nat → Nat → Nat) (n : Nat) (x : Nat → Int32) (y : Nat → Int64) : clC d a 2 n x y = .inl (d 4, 4, .inr (.inr (.inr (.inr (fun j => some (a 20 j)))))) := rfl
theorem clC_3 (d : Nat → ClassId) (a : Nat → Nat → Nat) (n : Nat) (x : Nat → Int32) (y : Nat → Int64) : clC d a 3 n x y = .inr (1, [.ref (a 7 0), .ref (a 10 0), .ref (a 14 0), .int (x 3), .ref (a 15 0), .int (x 5), .ref (a 16 0), .int (x 7)]) := rfl
theorem clC_4 (d : Nat → ClassId) (a : Nat → Nat → Nat) (n : Nat) (x : Nat → Int32) (y : Nat → Int64) : clC d a 4 n x y = .inr (6, [.ref (a 17 0), .int (x 1), .int (x 2), .int (x 3), .ref (a 3 0)]) := rfl
theorem clC_5 (d : Nat → ClassId) (a : Nat → Nat → Nat) (n : Nat) (x : Nat → Int32) (y : Nat → Int64) : clC d a 5 n x y = .inr (2, [.int (x 0), .ref (a 3 0)]) := rfl
theorem clC_6 (d : Nat → ClassId) (a : Nat → Nat → Nat) (n : Nat) (x : Nat → Int32) (y : Nat → Int64) : clC d a 6 n x y = .inl (d 0, 6, .inl x) := rfl
theorem clC_7 (d : Nat → ClassId) (a : Nat → Nat → Nat) (n : Nat) (x : Nat → Int32) (y : Nat → Int64) : clC d a 7 n x y = .inr (8, [.ref (a 8 0), .ref (a 9 0)]) := rfl
theorem clC_8 (d : Nat → ClassId) (a : Nat → Nat → Nat) (n : Nat) (x : Nat → Int32) (y : Nat → Int64) : clC d a 8 n x y = .inl (d 0, 244, .inl x) := rfl
theorem clC_9 (d : Nat → ClassId) (a : Nat → Nat → Nat) (n : Nat) (x : Nat → Int32) (y : Nat → Int64) : clC d a 9 n x y = .inl (d 0, 244, .inl x) := rfl
theorem clC_10 (d : Nat → ClassId) (a : Nat → Nat → Nat) (n : Nat) (x : Nat → Int32) (y : Nat → Int64) : clC d a 10 n x y = .inr (0, [.int (x 0), .int (x 1), .int (x 2), .ref (a 11 0), .int (x 4), .int (x 5), .int (x 6), .int (x 7), .int (x 8), .ref (a 7 0), .ref (a 12 0), .ref (a 13 0)]) := rfl
theorem clC_11 (d : Nat → ClassId) (a : Nat → Nat → Nat) (n : Nat) (x : Nat → Int32) (y : Nat → Int64) : clC d a 11 n x y = .inl (d 0, 244, .inl x) := rfl
theorem clC_12 (d : Nat → ClassId) (a : Nat → Nat → Nat) (n : Nat) (x : Nat → Int32) (y : Nat → Int64) : clC d a 12 n x y = .inl (d 0, 244, .inl x) := rfl
theorem clC_13 (d : Nat → ClassId) (a : Nat → Nat → Nat) (n : Nat) (x : Nat → Int32) (y : Nat → Int64) : clC d a 13 n x y = .inl (d 0, 244, .inl x) := rfl
theorem clC_14 (d : Nat → ClassId) (a : Nat → Nat → Nat) (n : Nat) (x : Nat → Int32) (y : Nat → Int64) : clC d a 14 n x y = .inl (d 0, 12, .inl x) := rfl
theorem clC_15 (d : Nat → ClassId) (a : Nat → Nat → Nat) (n : Nat) (x : Nat → Int32) (y : Nat → Int64) : clC d a 15 n x y = .inl (d 5, 8, .inr (.inr (.inr (.inr (fun j => some (a 22 j)))))) := rfl
theorem clC_16 (d : Nat → ClassId) (a : Nat → Nat → Nat) (n : Nat) (x : Nat → Int32) (y : Nat → Int64) : clC d a 16 n x y = .inl (d 6, 24, .inr (.inr (.inr (.inr (fun j => some (a 26 j)))))) := rfl
theorem clC_17 (d : Nat → ClassId) (a : Nat → Nat → Nat) (n : Nat) (x : Nat → Int32) (y : Nat → Int64) : clC d a 17 n x y = .inl (d 7, 40, .inr (.inr (.inr (.inr (fun j => some (a 28 j)))))) := rfl
theorem clC_18 (d : Nat → ClassId) (a : Nat → Nat → Nat) (n : Nat) (x : Nat → Int32) (y : Nat → Int64) : clC d a 18 n x y = .inr (7, [.ref (a 19 n), .int (x 1)]) := rfl
theorem clC_19 (d : Nat → ClassId) (a : Nat → Nat → Nat) (n : Nat) (x : Nat → Int32) (y : Nat → Int64) : clC d a 19 n x y = .inl (d 0, 40, .inl x) := rfl
theorem clC_20 (d : Nat → ClassId) (a : Nat → Nat → Nat) (n : Nat) (x : Nat → Int32) (y : Nat → Int64) : clC d a 20 n x y = .inr (10, [.ref (a 21 n), .int (x 1), .int (x 2), .int (x 3)]) := rfl
theorem clC_21 (d : Nat → ClassId) (a : Nat → Nat → Nat) (n : Nat) (x : Nat → Int32) (y : Nat → Int64) : clC d a 21 n x y = .inl (d 1, 40, .inl x) := rfl
theorem clC_22 (d : Nat → ClassId) (a : Nat → Nat → Nat) (n : Nat) (x : Nat → Int32) (y : Nat → Int64) : clC d a 22 n x y = .inr (3, [.int (x 0), .int (x 1), .int (x 2), .int (x 3), .ref (a 23 n), .int (x 5), .ref (a 24 n)]) := rfl
theorem clC_23 (d : Nat → ClassId) (a : Nat → Nat → Nat) (n : Nat) (x : Nat → Int32) (y : Nat → Int64) : clC d a 23 n x y = .inl (d 0, 9, .inl x) := rfl
theorem clC_24 (d : Nat → ClassId) (a : Nat → Nat → Nat) (n : Nat) (x : Nat → Int32) (y : Nat → Int64) : clC d a 24 n x y = .inr (4, [.int (x 0), .int (x 1), .int (x 2), .int (x 3), .ref (a 25 n), .int (x 5), .int (x 6), .int (x 7)]) := rfl
theorem clC_25 (d : Nat → ClassId) (a : Nat → Nat → Nat) (n : Nat) (x : Nat → Int32) (y : Nat → Int64) : clC d a 25 n x y = .inl (d 0, 244, .inl x) := rfl
theorem clC_26 (d : Nat → ClassId) (a : Nat → Nat → Nat) (n : Nat) (x : Nat → Int32) (y : Nat → Int64) : clC d a 26 n x y = .inr (9, [.int (x 0), .int (x 1), .int (x 2), .int (x 3), .int (x 4), .ref (a 27 n)]) := rfl
theorem clC_27 (d : Nat → ClassId) (a : Nat → Nat → Nat) (n : Nat) (x : Nat → Int32) (y : Nat → Int64) : clC d a 27 n x y = .inl (d 0, 5, .inl x) := rfl
theorem clC_28 (d : Nat → ClassId) (a : Nat → Nat → Nat) (n : Nat) (x : Nat → Int32) (y : Nat → Int64) : clC d a 28 n x y = .inr (5, [.int (x 0), .int (x 1), .int (x 2), .int (x 3)]) := rfl
def clM : Cl := fun d a kd n x y => match kd with
  | 0 => .inr (12, [.int (x 0), .ref (a 1 0), .int (x 2), .long (y 3), .long (y 4), .ref (a 5 0), .ref (a 6 0), .ref (a 7 0), .ref (a 8 0), .ref (a 9 0), .int (x 10), .ref (a 11 0), .int (x 12), .ref (a 13 0), .ref (a 14 0), .ref (a 15 0), .int (x 16), .ref (a 17 0), .ref (a 18 0), .ref (a 19 0), .ref (a 20 0), .ref (a 21 0), .ref (a 22 0), .int (x 23), .ref (a 24 0), .ref (a 25 0), .int (x 26), .int (x 27), .int (x 28), .int (x 29), .int (x 30), .ref (a 31 0), .ref (a 32 0), .int (x 33), .ref (a 34 0), .ref (a 35 0), .ref (a 36 0), .ref (a 37 0), .int (x 38), .ref (a 39 0), .long (y 40)])
  | 1 => .inl (d 0, 6, .inl x)
  | 5 => .inl (d 0, 6, .inl x)
  | 6 => .inl (d 0, 240, .inl x)
  | 7 => .inl (d 0, 40, .inl x)
  | 8 => .inl (d 0, 4, .inl x)
  | 9 => .inl (d 0, 160, .inl x)
  | 11 => .inl (d 0, 12, .inl x)
  | 13 => .inl (d 0, 8, .inl x)
  | 14 => .inl (d 0, 8, .inl x)
  | 15 => .inl (d 0, 8, .inl x)
  | 17 => .inl (d 0, 24, .inl x)
  | 18 => .inl (d 0, 24, .inl x)
  | 19 => .inl (d 0, 24, .inl x)
  | 20 => .inl (d 0, 24, .inl x)
  | 21 => .inl (d 0, 24, .inl x)
  | 22 => .inl (d 0, 120, .inl x)
  | 24 => .inl (d 0, 3, .inl x)
  | 25 => .inl (d 0, 2196, .inl x)
  | 31 => .inl (d 2, 244, .inl x)
  | 32 => .inl (d 0, 8, .inl x)
  | 34 => .inl (d 0, 40, .inl x)
  | 35 => .inl (d 0, 40, .inl x)
  | 36 => .inl (d 0, 40, .inl x)
  | 37 => .inl (d 2, 40, .inl x)
  | 39 => .inl (d 0, 32, .inl x)
  | _ => .inr (0, [])
theorem clM_0 (d : Nat → ClassId) (a : Nat → Nat → Nat) (n : Nat) (x : Nat → Int32) (y : Nat → Int64) : clM d a 0 n x y = .inr (12, [.int (x 0), .ref (a 1 0), .int (x 2), .long (y 3), .long (y 4), .ref (a 5 0), .ref (a 6 0), .ref (a 7 0), .ref (a 8 0), .ref (a 9 0), .int (x 10), .ref (a 11 0), .int (x 12), .ref (a 13 0), .ref (a 14 0), .ref (a 15 0), .int (x 16), .ref (a 17 0), .ref (a 18 0), .ref (a 19 0), .ref (a 20 0), .ref (a 21 0), .ref (a 22 0), .int (x 23), .ref (a 24 0), .ref (a 25 0), .int (x 26), .int (x 27), .int (x 28), .int (x 29), .int (x 30), .ref (a 31 0), .ref (a 32 0), .int (x 33), .ref (a 34 0), .ref (a 35 0), .ref (a 36 0), .ref (a 37 0), .int (x 38), .ref (a 39 0), .long (y 40)]) := rfl
theorem clM_1 (d : Nat → ClassId) (a : Nat → Nat → Nat) (n : Nat) (x : Nat → Int32) (y : Nat → Int64) : clM d a 1 n x y = .inl (d 0, 6, .inl x) := rfl
theorem clM_5 (d : Nat → ClassId) (a : Nat → Nat → Nat) (n : Nat) (x : Nat → Int32) (y : Nat → Int64) : clM d a 5 n x y = .inl (d 0, 6, .inl x) := rfl
theorem clM_6 (d : Nat → ClassId) (a : Nat → Nat → Nat) (n : Nat) (x : Nat → Int32) (y : Nat → Int64) : clM d a 6 n x y = .inl (d 0, 240, .inl x) := rfl
theorem clM_7 (d : Nat → ClassId) (a : Nat → Nat → Nat) (n : Nat) (x : Nat → Int32) (y : Nat → Int64) : clM d a 7 n x y = .inl (d 0, 40, .inl x) := rfl
theorem clM_8 (d : Nat → ClassId) (a : Nat → Nat → Nat) (n : Nat) (x : Nat → Int32) (y : Nat → Int64) : clM d a 8 n x y = .inl (d 0, 4, .inl x) := rfl
theorem clM_9 (d : Nat → ClassId) (a : Nat → Nat → Nat) (n : Nat) (x : Nat → Int32) (y : Nat → Int64) : clM d a 9 n x y = .inl (d 0, 160, .inl x) := rfl
theorem clM_11 (d : Nat → ClassId) (a : Nat → Nat → Nat) (n : Nat) (x : Nat → Int32) (y : Nat → Int64) : clM d a 11 n x y = .inl (d 0, 12, .inl x) := rfl
theorem clM_13 (d : Nat → ClassId) (a : Nat → Nat → Nat) (n : Nat) (x : Nat → Int32) (y : Nat → Int64) : clM d a 13 n x y = .inl (d 0, 8, .inl x) := rfl
theorem clM_14 (d : Nat → ClassId) (a : Nat → Nat → Nat) (n : Nat) (x : Nat → Int32) (y : Nat → Int64) : clM d a 14 n x y = .inl (d 0, 8, .inl x) := rfl
theorem clM_15 (d : Nat → ClassId) (a : Nat → Nat → Nat) (n : Nat) (x : Nat → Int32) (y : Nat → Int64) : clM d a 15 n x y = .inl (d 0, 8, .inl x) := rfl
theorem clM_17 (d : Nat → ClassId) (a : Nat → Nat → Nat) (n : Nat) (x : Nat → Int32) (y : Nat → Int64) : clM d a 17 n x y = .inl (d 0, 24, .inl x) := rfl
theorem clM_18 (d : Nat → ClassId) (a : Nat → Nat → Nat) (n : Nat) (x : Nat → Int32) (y : Nat → Int64) : clM d a 18 n x y = .inl (d 0, 24, .inl x) := rfl
theorem clM_19 (d : Nat → ClassId) (a : Nat → Nat → Nat) (n : Nat) (x : Nat → Int32) (y : Nat → Int64) : clM d a 19 n x y = .inl (d 0, 24, .inl x) := rfl
theorem clM_20 (d : Nat → ClassId) (a : Nat → Nat → Nat) (n : Nat) (x : Nat → Int32) (y : Nat → Int64) : clM d a 20 n x y = .inl (d 0, 24, .inl x) := rfl
theorem clM_21 (d : Nat → ClassId) (a : Nat → Nat → Nat) (n : Nat) (x : Nat → Int32) (y : Nat → Int64) : clM d a 21 n x y = .inl (d 0, 24, .inl x) := rfl
theorem clM_22 (d : Nat → ClassId) (a : Nat → Nat → Nat) (n : Nat) (x : Nat → Int32) (y : Nat → Int64) : clM d a 22 n x y = .inl (d 0, 120, .inl x) := rfl
theorem clM_24 (d : Nat → ClassId) (a : Nat → Nat → Nat) (n : Nat) (x : Nat → Int32) (y : Nat → Int64) : clM d a 24 n x y = .inl (d 0, 3, .inl x) := rfl
theorem clM_25 (d : Nat → ClassId) (a : Nat → Nat → Nat) (n : Nat) (x : Nat → Int32) (y : Nat → Int64) : clM d a 25 n x y = .inl (d 0, 2196, .inl x) := rfl
theorem clM_31 (d : Nat → ClassId) (a : Nat → Nat → Nat) (n : Nat) (x : Nat → Int32) (y : Nat → Int64) : clM d a 31 n x y = .inl (d 2, 244, .inl x) := rfl
theorem clM_32 (d : Nat → ClassId) (a : Nat → Nat → Nat) (n : Nat) (x : Nat → Int32) (y : Nat → Int64) : clM d a 32 n x y = .inl (d 0, 8, .inl x) := rfl
theorem clM_34 (d : Nat → ClassId) (a : Nat → Nat → Nat) (n : Nat) (x : Nat → Int32) (y : Nat → Int64) : clM d a 34 n x y = .inl (d 0, 40, .inl x) := rfl
theorem clM_35 (d : Nat → ClassId) (a : Nat → Nat → Nat) (n : Nat) (x : Nat → Int32) (y : Nat → Int64) : clM d a 35 n x y = .inl (d 0, 40, .inl x) := rfl
theorem clM_36 (d : Nat → ClassId) (a : Nat → Nat → Nat) (n : Nat) (x : Nat → Int32) (y : Nat → Int64) : clM d a 36 n x y = .inl (d 0, 40, .inl x) := rfl
theorem clM_37 (d : Nat → ClassId) (a : Nat → Nat → Nat) (n : Nat) (x : Nat → Int32) (y : Nat → Int64) : clM d a 37 n x y = .inl (d 2, 40, .inl x) := rfl
theorem clM_39 (d : Nat → ClassId) (a : Nat → Nat → Nat) (n : Nat) (x : Nat → Int32) (y : Nat → Int64) : clM d a 39 n x y = .inl (d 0, 32, .inl x) := rfl
def ksC : List (Nat × Nat) := [(0, 0), (1, 0), (2, 0), (3, 0), (4, 0), (5, 0), (6, 0), (7, 0), (8, 0), (9, 0), (10, 0), (11, 0), (12, 0), (13, 0), (14, 0), (15, 0), (16, 0), (17, 0), (18, 0), (18, 1), (18, 2), (18, 3), (18, 4), (18, 5), (19, 0), (19, 1), (19, 2), (19, 3), (19, 4), (19, 5), (20, 0), (20, 1), (20, 2), (20, 3), (21, 0), (21, 1), (21, 2), (21, 3), (22, 0), (22, 1), (22, 2), (22, 3), (22, 4), (22, 5), (22, 6), (22, 7), (23, 0), (23, 1), (23, 2), (23, 3), (23, 4), (23, 5), (23, 6), (23, 7), (24, 0), (24, 1), (24, 2), (24, 3), (24, 4), (24, 5), (24, 6), (24, 7), (25, 0), (25, 1), (25, 2), (25, 3), (25, 4), (25, 5), (25, 6), (25, 7), (26, 0), (26, 1), (26, 2), (26, 3), (26, 4), (26, 5), (26, 6), (26, 7), (26, 8), (26, 9), (26, 10), (26, 11), (26, 12), (26, 13), (26, 14), (26, 15), (26, 16), (26, 17), (26, 18), (26, 19), (26, 20), (26, 21), (26, 22), (26, 23), (27, 0), (27, 1), (27, 2), (27, 3), (27, 4), (27, 5), (27, 6), (27, 7), (27, 8), (27, 9), (27, 10), (27, 11), (27, 12), (27, 13), (27, 14), (27, 15), (27, 16), (27, 17), (27, 18), (27, 19), (27, 20), (27, 21), (27, 22), (27, 23), (28, 0), (28, 1), (28, 2), (28, 3), (28, 4), (28, 5), (28, 6), (28, 7), (28, 8), (28, 9), (28, 10), (28, 11), (28, 12), (28, 13), (28, 14), (28, 15), (28, 16), (28, 17), (28, 18), (28, 19), (28, 20), (28, 21), (28, 22), (28, 23), (28, 24), (28, 25), (28, 26), (28, 27), (28, 28), (28, 29), (28, 30), (28, 31), (28, 32), (28, 33), (28, 34), (28, 35), (28, 36), (28, 37), (28, 38), (28, 39)]
def ksM : List (Nat × Nat) := [(0, 0), (1, 0), (5, 0), (6, 0), (7, 0), (8, 0), (9, 0), (11, 0), (13, 0), (14, 0), (15, 0), (17, 0), (18, 0), (19, 0), (20, 0), (21, 0), (22, 0), (24, 0), (25, 0), (31, 0), (32, 0), (34, 0), (35, 0), (36, 0), (37, 0), (39, 0)]
abbrev WC : Wk := (ksC, clC)
abbrev WM : Wk := (ksM, clM)
theorem Ko_of (l : List (Nat × Nat)) (h : l.Nodup) : ∀ (i j : Nat) (q : Nat × Nat), l[i]? = some q → l[j]? = some q → i = j := by
  intro i j q hi hj
  obtain ⟨h1, e1⟩ := List.getElem?_eq_some_iff.mp hi
  obtain ⟨h2, e2⟩ := List.getElem?_eq_some_iff.mp hj
  exact (List.getElem?_inj h1 h).mp (hi.trans hj.symm)
set_option maxRecDepth 100000 in
theorem KoC : Ko WC := Ko_of ksC (by decide +kernel)
set_option maxRecDepth 100000 in
theorem KoM : Ko WM := Ko_of ksM (by decide +kernel)
theorem mc_0 : (0, 0) ∈ ksC := by decide +kernel
theorem mc_1 : (1, 0) ∈ ksC := by decide +kernel
theorem mc_2 : (2, 0) ∈ ksC := by decide +kernel
theorem mc_3 : (3, 0) ∈ ksC := by decide +kernel
theorem mc_4 : (4, 0) ∈ ksC := by decide +kernel
theorem mc_5 : (5, 0) ∈ ksC := by decide +kernel
theorem mc_6 : (6, 0) ∈ ksC := by decide +kernel
theorem mc_7 : (7, 0) ∈ ksC := by decide +kernel
theorem mc_8 : (8, 0) ∈ ksC := by decide +kernel
theorem mc_9 : (9, 0) ∈ ksC := by decide +kernel
theorem mc_10 : (10, 0) ∈ ksC := by decide +kernel
theorem mc_11 : (11, 0) ∈ ksC := by decide +kernel
theorem mc_12 : (12, 0) ∈ ksC := by decide +kernel
theorem mc_13 : (13, 0) ∈ ksC := by decide +kernel
theorem mc_14 : (14, 0) ∈ ksC := by decide +kernel
theorem mc_15 : (15, 0) ∈ ksC := by decide +kernel
theorem mc_16 : (16, 0) ∈ ksC := by decide +kernel
theorem mc_17 : (17, 0) ∈ ksC := by decide +kernel
theorem mc_18 {n : Nat} (h : n < 6) : (18, n) ∈ ksC := by
  have q : ∀ i : Fin 6, (18, i.val) ∈ ksC := by decide +kernel
  exact q ⟨n, h⟩
theorem mc_19 {n : Nat} (h : n < 6) : (19, n) ∈ ksC := by
  have q : ∀ i : Fin 6, (19, i.val) ∈ ksC := by decide +kernel
  exact q ⟨n, h⟩
theorem mc_20 {n : Nat} (h : n < 4) : (20, n) ∈ ksC := by
  have q : ∀ i : Fin 4, (20, i.val) ∈ ksC := by decide +kernel
  exact q ⟨n, h⟩
theorem mc_21 {n : Nat} (h : n < 4) : (21, n) ∈ ksC := by
  have q : ∀ i : Fin 4, (21, i.val) ∈ ksC := by decide +kernel
  exact q ⟨n, h⟩
theorem mc_22 {n : Nat} (h : n < 8) : (22, n) ∈ ksC := by
  have q : ∀ i : Fin 8, (22, i.val) ∈ ksC := by decide +kernel
  exact q ⟨n, h⟩
theorem mc_23 {n : Nat} (h : n < 8) : (23, n) ∈ ksC := by
  have q : ∀ i : Fin 8, (23, i.val) ∈ ksC := by decide +kernel
  exact q ⟨n, h⟩
theorem mc_24 {n : Nat} (h : n < 8) : (24, n) ∈ ksC := by
  have q : ∀ i : Fin 8, (24, i.val) ∈ ksC := by decide +kernel
  exact q ⟨n, h⟩
theorem mc_25 {n : Nat} (h : n < 8) : (25, n) ∈ ksC := by
  have q : ∀ i : Fin 8, (25, i.val) ∈ ksC := by decide +kernel
  exact q ⟨n, h⟩
theorem mc_26 {n : Nat} (h : n < 24) : (26, n) ∈ ksC := by
  have q : ∀ i : Fin 24, (26, i.val) ∈ ksC := by decide +kernel
  exact q ⟨n, h⟩
theorem mc_27 {n : Nat} (h : n < 24) : (27, n) ∈ ksC := by
  have q : ∀ i : Fin 24, (27, i.val) ∈ ksC := by decide +kernel
  exact q ⟨n, h⟩
theorem mc_28 {n : Nat} (h : n < 40) : (28, n) ∈ ksC := by
  have q : ∀ i : Fin 40, (28, i.val) ∈ ksC := by decide +kernel
  exact q ⟨n, h⟩
theorem mm_0 : (0, 0) ∈ ksM := by decide +kernel
theorem mm_1 : (1, 0) ∈ ksM := by decide +kernel
theorem mm_5 : (5, 0) ∈ ksM := by decide +kernel
theorem mm_6 : (6, 0) ∈ ksM := by decide +kernel
theorem mm_7 : (7, 0) ∈ ksM := by decide +kernel
theorem mm_8 : (8, 0) ∈ ksM := by decide +kernel
theorem mm_9 : (9, 0) ∈ ksM := by decide +kernel
theorem mm_11 : (11, 0) ∈ ksM := by decide +kernel
theorem mm_13 : (13, 0) ∈ ksM := by decide +kernel
theorem mm_14 : (14, 0) ∈ ksM := by decide +kernel
theorem mm_15 : (15, 0) ∈ ksM := by decide +kernel
theorem mm_17 : (17, 0) ∈ ksM := by decide +kernel
theorem mm_18 : (18, 0) ∈ ksM := by decide +kernel
theorem mm_19 : (19, 0) ∈ ksM := by decide +kernel
theorem mm_20 : (20, 0) ∈ ksM := by decide +kernel
theorem mm_21 : (21, 0) ∈ ksM := by decide +kernel
theorem mm_22 : (22, 0) ∈ ksM := by decide +kernel
theorem mm_24 : (24, 0) ∈ ksM := by decide +kernel
theorem mm_25 : (25, 0) ∈ ksM := by decide +kernel
theorem mm_31 : (31, 0) ∈ ksM := by decide +kernel
theorem mm_32 : (32, 0) ∈ ksM := by decide +kernel
theorem mm_34 : (34, 0) ∈ ksM := by decide +kernel
theorem mm_35 : (35, 0) ∈ ksM := by decide +kernel
theorem mm_36 : (36, 0) ∈ ksM := by decide +kernel
theorem mm_37 : (37, 0) ∈ ksM := by decide +kernel
theorem mm_39 : (39, 0) ∈ ksM := by decide +kernel
theorem hyC (w : Wp) : ∀ q ∈ ksC, q ≠ (0, 0) → ∀ x y y', clC (wd w) (wa w) q.1 q.2 x y = clC (wd w) (wa w) q.1 q.2 x y' := by
  intro q hq hne x y y'
  have hz : q.1 ≠ 0 := by
    have key : ∀ q ∈ ksC, q.1 = 0 → q = (0, 0) := by decide +kernel
    exact fun h => hne (key q hq h)
  unfold clC
  split <;> first | rfl | (rename_i h; exact absurd h hz)
theorem hyM (w : Wp) : ∀ q ∈ ksM, q ≠ (0, 0) → ∀ x y y', clM (wd w) (wa w) q.1 q.2 x y = clM (wd w) (wa w) q.1 q.2 x y' := by
  intro q hq hne x y y'
  have hz : q.1 ≠ 0 := by
    have key : ∀ q ∈ ksM, q.1 = 0 → q = (0, 0) := by decide +kernel
    exact fun h => hne (key q hq h)
  unfold clM
  split <;> first | rfl | (rename_i h; exact absurd h hz)
set_option maxRecDepth 100000 in
theorem iwX0 : ∀ q ∈ u_ws RX0 TX0 12, q ∈ lw_good := by
  have h : (u_ws RX0 TX0 12).all (fun q => decide (q ∈ tables_1) && goodWord q) = true := by decide +kernel
  intro q hq
  have h1 := List.all_eq_true.mp h q hq
  simp only [Bool.and_eq_true, decide_eq_true_eq] at h1
  exact List.mem_filter.mpr ⟨List.mem_append_right _ h1.1, h1.2⟩
set_option maxRecDepth 100000 in
theorem iwX1 : ∀ q ∈ u_ws RX1 TX1 8, q ∈ lw_good := by
  have h : (u_ws RX1 TX1 8).all (fun q => decide (q ∈ tables_1) && goodWord q) = true := by decide +kernel
  intro q hq
  have h1 := List.all_eq_true.mp h q hq
  simp only [Bool.and_eq_true, decide_eq_true_eq] at h1
  exact List.mem_filter.mpr ⟨List.mem_append_right _ h1.1, h1.2⟩
set_option maxRecDepth 100000 in
theorem iwX2 : ∀ q ∈ u_ws RX2 TX2 2, q ∈ lw_good := by
  have h : (u_ws RX2 TX2 2).all (fun q => decide (q ∈ tables_1) && goodWord q) = true := by decide +kernel
  intro q hq
  have h1 := List.all_eq_true.mp h q hq
  simp only [Bool.and_eq_true, decide_eq_true_eq] at h1
  exact List.mem_filter.mpr ⟨List.mem_append_right _ h1.1, h1.2⟩
set_option maxRecDepth 100000 in
theorem iwX3 : ∀ q ∈ u_ws RX3 TX3 7, q ∈ lw_good := by
  have h : (u_ws RX3 TX3 7).all (fun q => decide (q ∈ tables_1) && goodWord q) = true := by decide +kernel
  intro q hq
  have h1 := List.all_eq_true.mp h q hq
  simp only [Bool.and_eq_true, decide_eq_true_eq] at h1
  exact List.mem_filter.mpr ⟨List.mem_append_right _ h1.1, h1.2⟩
set_option maxRecDepth 100000 in
theorem iwX4 : ∀ q ∈ u_ws RX4 TX4 8, q ∈ lw_good := by
  have h : (u_ws RX4 TX4 8).all (fun q => decide (q ∈ tables_1) && goodWord q) = true := by decide +kernel
  intro q hq
  have h1 := List.all_eq_true.mp h q hq
  simp only [Bool.and_eq_true, decide_eq_true_eq] at h1
  exact List.mem_filter.mpr ⟨List.mem_append_right _ h1.1, h1.2⟩
set_option maxRecDepth 100000 in
theorem iwX5 : ∀ q ∈ u_ws RX5 TX5 4, q ∈ lw_good := by
  have h : (u_ws RX5 TX5 4).all (fun q => decide (q ∈ tables_1) && goodWord q) = true := by decide +kernel
  intro q hq
  have h1 := List.all_eq_true.mp h q hq
  simp only [Bool.and_eq_true, decide_eq_true_eq] at h1
  exact List.mem_filter.mpr ⟨List.mem_append_right _ h1.1, h1.2⟩
set_option maxRecDepth 100000 in
theorem iwX6 : ∀ q ∈ u_ws RX6 TX6 5, q ∈ lw_good := by
  have h : (u_ws RX6 TX6 5).all (fun q => decide (q ∈ tables_1) && goodWord q) = true := by decide +kernel
  intro q hq
  have h1 := List.all_eq_true.mp h q hq
  simp only [Bool.and_eq_true, decide_eq_true_eq] at h1
  exact List.mem_filter.mpr ⟨List.mem_append_right _ h1.1, h1.2⟩
set_option maxRecDepth 100000 in
theorem iwX7 : ∀ q ∈ u_ws RX7 TX7 2, q ∈ lw_good := by
  have h : (u_ws RX7 TX7 2).all (fun q => decide (q ∈ tables_1) && goodWord q) = true := by decide +kernel
  intro q hq
  have h1 := List.all_eq_true.mp h q hq
  simp only [Bool.and_eq_true, decide_eq_true_eq] at h1
  exact List.mem_filter.mpr ⟨List.mem_append_right _ h1.1, h1.2⟩
set_option maxRecDepth 100000 in
theorem iwX8 : ∀ q ∈ u_ws RX8 TX8 2, q ∈ lw_good := by
  have h : (u_ws RX8 TX8 2).all (fun q => decide (q ∈ tables_1) && goodWord q) = true := by decide +kernel
  intro q hq
  have h1 := List.all_eq_true.mp h q hq
  simp only [Bool.and_eq_true, decide_eq_true_eq] at h1
  exact List.mem_filter.mpr ⟨List.mem_append_right _ h1.1, h1.2⟩
set_option maxRecDepth 100000 in
theorem iwX9 : ∀ q ∈ u_ws RX9 TX9 6, q ∈ lw_good := by
  have h : (u_ws RX9 TX9 6).all (fun q => decide (q ∈ tables_1) && goodWord q) = true := by decide +kernel
  intro q hq
  have h1 := List.all_eq_true.mp h q hq
  simp only [Bool.and_eq_true, decide_eq_true_eq] at h1
  exact List.mem_filter.mpr ⟨List.mem_append_right _ h1.1, h1.2⟩
set_option maxRecDepth 100000 in
theorem iwX10 : ∀ q ∈ u_ws RX10 TX10 4, q ∈ lw_good := by
  have h : (u_ws RX10 TX10 4).all (fun q => decide (q ∈ tables_1) && goodWord q) = true := by decide +kernel
  intro q hq
  have h1 := List.all_eq_true.mp h q hq
  simp only [Bool.and_eq_true, decide_eq_true_eq] at h1
  exact List.mem_filter.mpr ⟨List.mem_append_right _ h1.1, h1.2⟩
set_option maxRecDepth 100000 in
theorem iwX11 : ∀ q ∈ u_ws RX11 TX11 10, q ∈ lw_good := by
  have h : (u_ws RX11 TX11 10).all (fun q => decide (q ∈ tables_1) && goodWord q) = true := by decide +kernel
  intro q hq
  have h1 := List.all_eq_true.mp h q hq
  simp only [Bool.and_eq_true, decide_eq_true_eq] at h1
  exact List.mem_filter.mpr ⟨List.mem_append_right _ h1.1, h1.2⟩
set_option maxRecDepth 100000 in
theorem iwX12 : ∀ q ∈ u_ws RX12 TX12 41, q ∈ lw_good := by
  have h : (u_ws RX12 TX12 41).all (fun q => decide (q ∈ tables_1) && goodWord q) = true := by decide +kernel
  intro q hq
  have h1 := List.all_eq_true.mp h q hq
  simp only [Bool.and_eq_true, decide_eq_true_eq] at h1
  exact List.mem_filter.mpr ⟨List.mem_append_right _ h1.1, h1.2⟩
