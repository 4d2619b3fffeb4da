/-! THE PICTURE: one memory for all cells of the class and of the reference. A cell is (kind, b, i): its kind, the number of the object that it belongs to, its row. M.1: ints (bytes and booleans too), M.2.1: floats, M.2.2: doubles, by (kind, b, i, slot). -/
abbrev Mw : Type := (Nat → Nat → Nat → Nat → Int32) × (Nat → Nat → Nat → Nat → UInt32) × (Nat → Nat → Nat → Nat → UInt64)
/-- the classes, where each cell lies, the arrays' classes, the text constants, how many cells are made for a while -/
abbrev Gw : Type := va_G × (Nat → Nat → Nat → Nat) × (Nat → ClassId) × (Nat → Nat) × (Nat → Nat) × Nat
abbrev gD (g : Gw) : va_G := g.1
abbrev gA (g : Gw) : Nat → Nat → Nat → Nat := g.2.1
abbrev gC (g : Gw) : Nat → ClassId := g.2.2.1
abbrev gK (g : Gw) : Nat → Nat := g.2.2.2.1
abbrev gV (g : Gw) : Nat → Nat := g.2.2.2.2.1
abbrev gT (g : Gw) : Nat := g.2.2.2.2.2
def tyW (g : Gw) : List (ClassId × FieldType) := [(gC g 0, .int), (gC g 1, .boolean), (gC g 2, .byte), (gC g 3, .float), (gC g 4, .double), (gC g 5, .array .int), (gC g 6, .object "WatchStack$Board"), (gC g 7, .object "WatchStack$TaskState")]
def nbW (g : Gw) (κ : Nat) : Nat := if κ ≤ 12 then 8 else if κ ≤ 22 then 1 else if κ ≤ 35 then 3 else if κ ≤ 43 then 1 else if κ < 50 then 0 else if κ ≤ 91 then 1 else if κ < 98 then 0 else gT g
def niW (κ : Nat) : Nat := if κ = 4 ∨ κ = 6 ∨ κ = 8 ∨ κ = 10 ∨ κ = 25 ∨ κ = 30 ∨ κ = 38 ∨ κ = 40 then 5 else if κ = 12 then 19 else if κ = 19 then 6 else if κ = 28 then 128 else 1
def contW (g : Gw) (κ b i : Nat) (r : Nat → Int32) (f : Nat → UInt32) (d : Nat → UInt64) : va_E := match κ with
  | 0 => .inr (0, [.int (r 0), .int (r 1), .int (r 2), .int (r 3), .int (r 4), .int (r 5), .int (r 6), .int (r 7), .ref (gA g 1 b 0), .ref (gA g 2 b 0), .ref (gA g 3 b 0), .ref (gA g 5 b 0), .ref (gA g 7 b 0), .ref (gA g 9 b 0), .ref (gA g 11 b 0)])
  | 1 => .inl (gC g 0, 3, .inl r)
  | 2 => .inl (gC g 0, 3, .inl r)
  | 3 => .inl (gC g 5, 5, .inr (.inr (.inr (.inr (fun j => some (gA g 4 b j))))))
  | 4 => .inl (gC g 0, 7, .inl r)
  | 5 => .inl (gC g 5, 5, .inr (.inr (.inr (.inr (fun j => some (gA g 6 b j))))))
  | 6 => .inl (gC g 0, 6, .inl r)
  | 7 => .inl (gC g 5, 5, .inr (.inr (.inr (.inr (fun j => some (gA g 8 b j))))))
  | 8 => .inl (gC g 0, 6, .inl r)
  | 9 => .inl (gC g 5, 5, .inr (.inr (.inr (.inr (fun j => some (gA g 10 b j))))))
  | 10 => .inl (gC g 0, 2, .inl r)
  | 11 => .inl (gC g 5, 19, .inr (.inr (.inr (.inr (fun j => some (gA g 12 b j))))))
  | 12 => .inl (gC g 0, 5, .inl r)
  | 13 => .inr (1, [.ref (gA g 15 0 0), .ref (gA g 0 0 0), .int (r 2), .int (r 3), .ref (gA g 14 0 0)])
  | 14 => .inl (gC g 0, 6, .inl r)
  | 15 => .inr (6, [.ref (gA g 16 0 0), .int (r 1), .int (r 2), .int (r 3), .int (r 4), .int (r 5)])
  | 16 => .inl (gC g 0, 1000, .inl r)
  | 17 => .inr (2, [.ref (gA g 18 0 0), .ref (gA g 20 0 0)])
  | 18 => .inl (gC g 5, 6, .inr (.inr (.inr (.inr (fun j => some (gA g 19 b j))))))
  | 19 => .inl (gC g 0, 64, .inl r)
  | 20 => .inl (gC g 0, 64, .inl r)
  | 21 => .inr (3, [.ref (gA g 22 0 0), .int (r 1), .int (r 2)])
  | 22 => .inl (gC g 0, 5, .inl r)
  | 23 => .inr (5, [.ref (gA g 0 (b + 5) 0), .ref (gA g 24 b 0), .ref (gA g 26 b 0), .int (r 3), .int (r 4), .int (r 5), .int (r 6), .int (r 7), .int (r 8), .ref (gA g 29 b 0), .ref (gA g 31 b 0), .ref (gA g 32 b 0), .int (r 12), .ref (gA g 33 b 0), .ref (gA g 34 b 0), .ref (gA g 35 b 0)])
  | 24 => .inl (gC g 7, 5, .inr (.inr (.inr (.inr (fun j => some (gA g 25 b j))))))
  | 25 => .inr (7, [.int (r 0), .int (r 1), .int (r 2), .int (r 3), .int (r 4), .int (r 5), .int (r 6), .int (r 7), .int (r 8), .int (r 9), .int (r 10), .float (f 11), .int (r 12), .int (r 13), .int (r 14), .float (f 15), .double (d 16)])
  | 26 => .inr (4, [.ref (gA g 27 b 0), .int (r 1)])
  | 27 => .inl (gC g 5, 128, .inr (.inr (.inr (.inr (fun j => some (gA g 28 b j))))))
  | 28 => .inl (gC g 0, 4, .inl r)
  | 29 => .inl (gC g 5, 5, .inr (.inr (.inr (.inr (fun j => some (gA g 30 b j))))))
  | 30 => .inl (gC g 0, 51, .inl r)
  | 31 => .inl (gC g 0, 200, .inl r)
  | 32 => .inl (gC g 0, 200, .inl r)
  | 33 => .inl (gC g 0, 3, .inl r)
  | 34 => .inl (gC g 1, 3, .inl r)
  | 35 => .inl (gC g 1, 3, .inl r)
  | 36 => .inr (8, [.ref (gA g 37 0 0), .ref (gA g 39 0 0), .ref (gA g 23 2 0)])
  | 37 => .inl (gC g 5, 5, .inr (.inr (.inr (.inr (fun j => some (gA g 38 b j))))))
  | 38 => .inl (gC g 0, 5, .inl r)
  | 39 => .inl (gC g 5, 5, .inr (.inr (.inr (.inr (fun j => some (gA g 40 b j))))))
  | 40 => .inl (gC g 0, 5, .inl r)
  | 41 => .inr (9, [.ref (gA g 13 0 0), .ref (gA g 0 1 0), .ref (gA g 42 0 0), .ref (gA g 43 0 0), .ref (gA g 17 0 0), .ref (gA g 21 0 0), .ref (gA g 23 0 0), .ref (gA g 23 1 0), .ref (gA g 36 0 0)])
  | 42 => .inl (gC g 6, 3, .inr (.inr (.inr (.inr (fun j => some (gA g 0 (j + 2) 0))))))
  | 43 => .inl (gC g 1, 3, .inl r)
  | 50 => .inr (10, [.int (r 0), .ref (gA g 51 0 0), .ref (gA g 52 0 0), .ref (gA g 53 0 0), .ref (gA g 54 0 0), .int (r 5), .ref (gA g 55 0 0), .int (r 7), .int (r 8), .int (r 9), .int (r 10), .int (r 11), .int (r 12), .int (r 13), .ref (gA g 56 0 0), .ref (gA g 57 0 0), .ref (gA g 58 0 0), .ref (gA g 59 0 0), .ref (gA g 60 0 0), .ref (gA g 61 0 0), .ref (gA g 62 0 0), .int (r 21), .ref (gA g 63 0 0), .int (r 23), .int (r 24), .int (r 25), .int (r 26), .int (r 27), .ref (gA g 64 0 0), .ref (gA g 65 0 0), .ref (gA g 66 0 0), .ref (gA g 67 0 0), .ref (gA g 68 0 0), .ref (gA g 69 0 0), .ref (gA g 70 0 0), .ref (gA g 71 0 0), .ref (gA g 72 0 0), .ref (gA g 73 0 0), .ref (gA g 74 0 0), .ref (gA g 75 0 0), .ref (gA g 76 0 0), .ref (gA g 77 0 0), .ref (gA g 78 0 0), .ref (gA g 79 0 0), .ref (gA g 80 0 0), .ref (gA g 81 0 0), .ref (gA g 82 0 0), .ref (gA g 83 0 0), .ref (gA g 84 0 0), .ref (gA g 85 0 0), .ref (gA g 86 0 0), .ref (gA g 87 0 0), .ref (gA g 88 0 0), .ref (gA g 89 0 0), .ref (gA g 90 0 0), .ref (gA g 91 0 0), .int (r 56), .int (r 57), .int (r 58), .int (r 59), .int (r 60), .int (r 61)])
  | 51 => .inl (gC g 0, 201, .inl r)
  | 52 => .inl (gC g 0, 603, .inl r)
  | 53 => .inl (gC g 1, 3, .inl r)
  | 54 => .inl (gC g 2, 1000, .inl r)
  | 55 => .inl (gC g 0, 5, .inl r)
  | 56 => .inl (gC g 0, 201, .inl r)
  | 57 => .inl (gC g 0, 6, .inl r)
  | 58 => .inl (gC g 0, 5, .inl r)
  | 59 => .inl (gC g 0, 5, .inl r)
  | 60 => .inl (gC g 0, 5, .inl r)
  | 61 => .inl (gC g 0, 5, .inl r)
  | 62 => .inl (gC g 0, 5, .inl r)
  | 63 => .inl (gC g 0, 64, .inl r)
  | 64 => .inl (gC g 0, 5, .inl r)
  | 65 => .inl (gC g 0, 5, .inl r)
  | 66 => .inl (gC g 0, 5, .inl r)
  | 67 => .inl (gC g 0, 5, .inl r)
  | 68 => .inl (gC g 0, 5, .inl r)
  | 69 => .inl (gC g 0, 5, .inl r)
  | 70 => .inl (gC g 0, 5, .inl r)
  | 71 => .inl (gC g 1, 5, .inl r)
  | 72 => .inl (gC g 0, 5, .inl r)
  | 73 => .inl (gC g 0, 5, .inl r)
  | 74 => .inl (gC g 3, 5, .inr (.inr (.inl f)))
  | 75 => .inl (gC g 0, 5, .inl r)
  | 76 => .inl (gC g 1, 5, .inl r)
  | 77 => .inl (gC g 0, 5, .inl r)
  | 78 => .inl (gC g 0, 5, .inl r)
  | 79 => .inl (gC g 3, 5, .inr (.inr (.inl f)))
  | 80 => .inl (gC g 4, 5, .inr (.inr (.inr (.inl d))))
  | 81 => .inl (gC g 0, 5, .inl r)
  | 82 => .inl (gC g 0, 1000, .inl r)
  | 83 => .inl (gC g 0, 255, .inl r)
  | 84 => .inl (gC g 1, 19, .inl r)
  | 85 => .inl (gC g 1, 3, .inl r)
  | 86 => .inl (gC g 1, 3, .inl r)
  | 87 => .inl (gC g 0, 200, .inl r)
  | 88 => .inl (gC g 0, 4000, .inl r)
  | 89 => .inl (gC g 0, 4000, .inl r)
  | 90 => .inl (gC g 0, 4000, .inl r)
  | 91 => .inl (gC g 0, 4000, .inl r)
  | 98 => .inl (gC g 0, 6, .inl r)
  | 99 => .inl (gC g 0, 6, .inl r)
  | _ => .inr (0, [])
theorem contW_0 (g : Gw) (b i : Nat) (r : Nat → Int32) (f : Nat → UInt32) (d : Nat → UInt64) : contW g 0 b i r f d = .inr (0, [.int (r 0), .int (r 1), .int (r 2), .int (r 3), .int (r 4), .int (r 5), .int (r 6), .int (r 7), .ref (gA g 1 b 0), .ref (gA g 2 b 0), .ref (gA g 3 b 0), .ref (gA g 5 b 0), .ref (gA g 7 b 0), .ref (gA g 9 b 0), .ref (gA g 11 b 0)]) := rfl
theorem contW_1 (g : Gw) (b i : Nat) (r : Nat → Int32) (f : Nat → UInt32) (d : Nat → UInt64) : contW g 1 b i r f d = .inl (gC g 0, 3, .inl r) := rfl
theorem contW_2 (g : Gw) (b i : Nat) (r : Nat → Int32) (f : Nat → UInt32) (d : Nat → UInt64) : contW g 2 b i r f d = .inl (gC g 0, 3, .inl r) := rfl
theorem contW_3 (g : Gw) (b i : Nat) (r : Nat → Int32) (f : Nat → UInt32) (d : Nat → UInt64) : contW g 3 b i r f d = .inl (gC g 5, 5, .inr (.inr (.inr (.inr (fun j => some (gA g 4 b j)))))) := rfl
theorem contW_4 (g : Gw) (b i : Nat) (r : Nat → Int32) (f : Nat → UInt32) (d : Nat → UInt64) : contW g 4 b i r f d = .inl (gC g 0, 7, .inl r) := rfl
theorem contW_5 (g : Gw) (b i : Nat) (r : Nat → Int32) (f : Nat → UInt32) (d : Nat → UInt64) : contW g 5 b i r f d = .inl (gC g 5, 5, .inr (.inr (.inr (.inr (fun j => some (gA g 6 b j)))))) := rfl
theorem contW_6 (g : Gw) (b i : Nat) (r : Nat → Int32) (f : Nat → UInt32) (d : Nat → UInt64) : contW g 6 b i r f d = .inl (gC g 0, 6, .inl r) := rfl
theorem contW_7 (g : Gw) (b i : Nat) (r : Nat → Int32) (f : Nat → UInt32) (d : Nat → UInt64) : contW g 7 b i r f d = .inl (gC g 5, 5, .inr (.inr (.inr (.inr (fun j => some (gA g 8 b j)))))) := rfl
theorem contW_8 (g : Gw) (b i : Nat) (r : Nat → Int32) (f : Nat → UInt32) (d : Nat → UInt64) : contW g 8 b i r f d = .inl (gC g 0, 6, .inl r) := rfl
theorem contW_9 (g : Gw) (b i : Nat) (r : Nat → Int32) (f : Nat → UInt32) (d : Nat → UInt64) : contW g 9 b i r f d = .inl (gC g 5, 5, .inr (.inr (.inr (.inr (fun j => some (gA g 10 b j)))))) := rfl
theorem contW_10 (g : Gw) (b i : Nat) (r : Nat → Int32) (f : Nat → UInt32) (d : Nat → UInt64) : contW g 10 b i r f d = .inl (gC g 0, 2, .inl r) := rfl
theorem contW_11 (g : Gw) (b i : Nat) (r : Nat → Int32) (f : Nat → UInt32) (d : Nat → UInt64) : contW g 11 b i r f d = .inl (gC g 5, 19, .inr (.inr (.inr (.inr (fun j => some (gA g 12 b j)))))) := rfl
theorem contW_12 (g : Gw) (b i : Nat) (r : Nat → Int32) (f : Nat → UInt32) (d : Nat → UInt64) : contW g 12 b i r f d = .inl (gC g 0, 5, .inl r) := rfl
theorem contW_13 (g : Gw) (b i : Nat) (r : Nat → Int32) (f : Nat → UInt32) (d : Nat → UInt64) : contW g 13 b i r f d = .inr (1, [.ref (gA g 15 0 0), .ref (gA g 0 0 0), .int (r 2), .int (r 3), .ref (gA g 14 0 0)]) := rfl
theorem contW_14 (g : Gw) (b i : Nat) (r : Nat → Int32) (f : Nat → UInt32) (d : Nat → UInt64) : contW g 14 b i r f d = .inl (gC g 0, 6, .inl r) := rfl
theorem contW_15 (g : Gw) (b i : Nat) (r : Nat → Int32) (f : Nat → UInt32) (d : Nat → UInt64) : contW g 15 b i r f d = .inr (6, [.ref (gA g 16 0 0), .int (r 1), .int (r 2), .int (r 3), .int (r 4), .int (r 5)]) := rfl
theorem contW_16 (g : Gw) (b i : Nat) (r : Nat → Int32) (f : Nat → UInt32) (d : Nat → UInt64) : contW g 16 b i r f d = .inl (gC g 0, 1000, .inl r) := rfl
theorem contW_17 (g : Gw) (b i : Nat) (r : Nat → Int32) (f : Nat → UInt32) (d : Nat → UInt64) : contW g 17 b i r f d = .inr (2, [.ref (gA g 18 0 0), .ref (gA g 20 0 0)]) := rfl
theorem contW_18 (g : Gw) (b i : Nat) (r : Nat → Int32) (f : Nat → UInt32) (d : Nat → UInt64) : contW g 18 b i r f d = .inl (gC g 5, 6, .inr (.inr (.inr (.inr (fun j => some (gA g 19 b j)))))) := rfl
theorem contW_19 (g : Gw) (b i : Nat) (r : Nat → Int32) (f : Nat → UInt32) (d : Nat → UInt64) : contW g 19 b i r f d = .inl (gC g 0, 64, .inl r) := rfl
theorem contW_20 (g : Gw) (b i : Nat) (r : Nat → Int32) (f : Nat → UInt32) (d : Nat → UInt64) : contW g 20 b i r f d = .inl (gC g 0, 64, .inl r) := rfl
theorem contW_21 (g : Gw) (b i : Nat) (r : Nat → Int32) (f : Nat → UInt32) (d : Nat → UInt64) : contW g 21 b i r f d = .inr (3, [.ref (gA g 22 0 0), .int (r 1), .int (r 2)]) := rfl
theorem contW_22 (g : Gw) (b i : Nat) (r : Nat → Int32) (f : Nat → UInt32) (d : Nat → UInt64) : contW g 22 b i r f d = .inl (gC g 0, 5, .inl r) := rfl
theorem contW_23 (g : Gw) (b i : Nat) (r : Nat → Int32) (f : Nat → UInt32) (d : Nat → UInt64) : contW g 23 b i r f d = .inr (5, [.ref (gA g 0 (b + 5) 0), .ref (gA g 24 b 0), .ref (gA g 26 b 0), .int (r 3), .int (r 4), .int (r 5), .int (r 6), .int (r 7), .int (r 8), .ref (gA g 29 b 0), .ref (gA g 31 b 0), .ref (gA g 32 b 0), .int (r 12), .ref (gA g 33 b 0), .ref (gA g 34 b 0), .ref (gA g 35 b 0)]) := rfl
theorem contW_24 (g : Gw) (b i : Nat) (r : Nat → Int32) (f : Nat → UInt32) (d : Nat → UInt64) : contW g 24 b i r f d = .inl (gC g 7, 5, .inr (.inr (.inr (.inr (fun j => some (gA g 25 b j)))))) := rfl
theorem contW_25 (g : Gw) (b i : Nat) (r : Nat → Int32) (f : Nat → UInt32) (d : Nat → UInt64) : contW g 25 b i r f d = .inr (7, [.int (r 0), .int (r 1), .int (r 2), .int (r 3), .int (r 4), .int (r 5), .int (r 6), .int (r 7), .int (r 8), .int (r 9), .int (r 10), .float (f 11), .int (r 12), .int (r 13), .int (r 14), .float (f 15), .double (d 16)]) := rfl
theorem contW_26 (g : Gw) (b i : Nat) (r : Nat → Int32) (f : Nat → UInt32) (d : Nat → UInt64) : contW g 26 b i r f d = .inr (4, [.ref (gA g 27 b 0), .int (r 1)]) := rfl
theorem contW_27 (g : Gw) (b i : Nat) (r : Nat → Int32) (f : Nat → UInt32) (d : Nat → UInt64) : contW g 27 b i r f d = .inl (gC g 5, 128, .inr (.inr (.inr (.inr (fun j => some (gA g 28 b j)))))) := rfl
theorem contW_28 (g : Gw) (b i : Nat) (r : Nat → Int32) (f : Nat → UInt32) (d : Nat → UInt64) : contW g 28 b i r f d = .inl (gC g 0, 4, .inl r) := rfl
theorem contW_29 (g : Gw) (b i : Nat) (r : Nat → Int32) (f : Nat → UInt32) (d : Nat → UInt64) : contW g 29 b i r f d = .inl (gC g 5, 5, .inr (.inr (.inr (.inr (fun j => some (gA g 30 b j)))))) := rfl
theorem contW_30 (g : Gw) (b i : Nat) (r : Nat → Int32) (f : Nat → UInt32) (d : Nat → UInt64) : contW g 30 b i r f d = .inl (gC g 0, 51, .inl r) := rfl
theorem contW_31 (g : Gw) (b i : Nat) (r : Nat → Int32) (f : Nat → UInt32) (d : Nat → UInt64) : contW g 31 b i r f d = .inl (gC g 0, 200, .inl r) := rfl
theorem contW_32 (g : Gw) (b i : Nat) (r : Nat → Int32) (f : Nat → UInt32) (d : Nat → UInt64) : contW g 32 b i r f d = .inl (gC g 0, 200, .inl r) := rfl
theorem contW_33 (g : Gw) (b i : Nat) (r : Nat → Int32) (f : Nat → UInt32) (d : Nat → UInt64) : contW g 33 b i r f d = .inl (gC g 0, 3, .inl r) := rfl
theorem contW_34 (g : Gw) (b i : Nat) (r : Nat → Int32) (f : Nat → UInt32) (d : Nat → UInt64) : contW g 34 b i r f d = .inl (gC g 1, 3, .inl r) := rfl
theorem contW_35 (g : Gw) (b i : Nat) (r : Nat → Int32) (f : Nat → UInt32) (d : Nat → UInt64) : contW g 35 b i r f d = .inl (gC g 1, 3, .inl r) := rfl
theorem contW_36 (g : Gw) (b i : Nat) (r : Nat → Int32) (f : Nat → UInt32) (d : Nat → UInt64) : contW g 36 b i r f d = .inr (8, [.ref (gA g 37 0 0), .ref (gA g 39 0 0), .ref (gA g 23 2 0)]) := rfl
theorem contW_37 (g : Gw) (b i : Nat) (r : Nat → Int32) (f : Nat → UInt32) (d : Nat → UInt64) : contW g 37 b i r f d = .inl (gC g 5, 5, .inr (.inr (.inr (.inr (fun j => some (gA g 38 b j)))))) := rfl
theorem contW_38 (g : Gw) (b i : Nat) (r : Nat → Int32) (f : Nat → UInt32) (d : Nat → UInt64) : contW g 38 b i r f d = .inl (gC g 0, 5, .inl r) := rfl
theorem contW_39 (g : Gw) (b i : Nat) (r : Nat → Int32) (f : Nat → UInt32) (d : Nat → UInt64) : contW g 39 b i r f d = .inl (gC g 5, 5, .inr (.inr (.inr (.inr (fun j => some (gA g 40 b j)))))) := rfl
theorem contW_40 (g : Gw) (b i : Nat) (r : Nat → Int32) (f : Nat → UInt32) (d : Nat → UInt64) : contW g 40 b i r f d = .inl (gC g 0, 5, .inl r) := rfl
theorem contW_41 (g : Gw) (b i : Nat) (r : Nat → Int32) (f : Nat → UInt32) (d : Nat → UInt64) : contW g 41 b i r f d = .inr (9, [.ref (gA g 13 0 0), .ref (gA g 0 1 0), .ref (gA g 42 0 0), .ref (gA g 43 0 0), .ref (gA g 17 0 0), .ref (gA g 21 0 0), .ref (gA g 23 0 0), .ref (gA g 23 1 0), .ref (gA g 36 0 0)]) := rfl
theorem contW_42 (g : Gw) (b i : Nat) (r : Nat → Int32) (f : Nat → UInt32) (d : Nat → UInt64) : contW g 42 b i r f d = .inl (gC g 6, 3, .inr (.inr (.inr (.inr (fun j => some (gA g 0 (j + 2) 0)))))) := rfl
theorem contW_43 (g : Gw) (b i : Nat) (r : Nat → Int32) (f : Nat → UInt32) (d : Nat → UInt64) : contW g 43 b i r f d = .inl (gC g 1, 3, .inl r) := rfl
theorem contW_50 (g : Gw) (b i : Nat) (r : Nat → Int32) (f : Nat → UInt32) (d : Nat → UInt64) : contW g 50 b i r f d = .inr (10, [.int (r 0), .ref (gA g 51 0 0), .ref (gA g 52 0 0), .ref (gA g 53 0 0), .ref (gA g 54 0 0), .int (r 5), .ref (gA g 55 0 0), .int (r 7), .int (r 8), .int (r 9), .int (r 10), .int (r 11), .int (r 12), .int (r 13), .ref (gA g 56 0 0), .ref (gA g 57 0 0), .ref (gA g 58 0 0), .ref (gA g 59 0 0), .ref (gA g 60 0 0), .ref (gA g 61 0 0), .ref (gA g 62 0 0), .int (r 21), .ref (gA g 63 0 0), .int (r 23), .int (r 24), .int (r 25), .int (r 26), .int (r 27), .ref (gA g 64 0 0), .ref (gA g 65 0 0), .ref (gA g 66 0 0), .ref (gA g 67 0 0), .ref (gA g 68 0 0), .ref (gA g 69 0 0), .ref (gA g 70 0 0), .ref (gA g 71 0 0), .ref (gA g 72 0 0), .ref (gA g 73 0 0), .ref (gA g 74 0 0), .ref (gA g 75 0 0), .ref (gA g 76 0 0), .ref (gA g 77 0 0), .ref (gA g 78 0 0), .ref (gA g 79 0 0), .ref (gA g 80 0 0), .ref (gA g 81 0 0), .ref (gA g 82 0 0), .ref (gA g 83 0 0), .ref (gA g 84 0 0), .ref (gA g 85 0 0), .ref (gA g 86 0 0), .ref (gA g 87 0 0), .ref (gA g 88 0 0), .ref (gA g 89 0 0), .ref (gA g 90 0 0), .ref (gA g 91 0 0), .int (r 56), .int (r 57), .int (r 58), .int (r 59), .int (r 60), .int (r 61)]) := rfl
theorem contW_51 (g : Gw) (b i : Nat) (r : Nat → Int32) (f : Nat → UInt32) (d : Nat → UInt64) : contW g 51 b i r f d = .inl (gC g 0, 201, .inl r) := rfl
theorem contW_52 (g : Gw) (b i : Nat) (r : Nat → Int32) (f : Nat → UInt32) (d : Nat → UInt64) : contW g 52 b i r f d = .inl (gC g 0, 603, .inl r) := rfl
theorem contW_53 (g : Gw) (b i : Nat) (r : Nat → Int32) (f : Nat → UInt32) (d : Nat → UInt64) : contW g 53 b i r f d = .inl (gC g 1, 3, .inl r) := rfl
theorem contW_54 (g : Gw) (b i : Nat) (r : Nat → Int32) (f : Nat → UInt32) (d : Nat → UInt64) : contW g 54 b i r f d = .inl (gC g 2, 1000, .inl r) := rfl
theorem contW_55 (g : Gw) (b i : Nat) (r : Nat → Int32) (f : Nat → UInt32) (d : Nat → UInt64) : contW g 55 b i r f d = .inl (gC g 0, 5, .inl r) := rfl
theorem contW_56 (g : Gw) (b i : Nat) (r : Nat → Int32) (f : Nat → UInt32) (d : Nat → UInt64) : contW g 56 b i r f d = .inl (gC g 0, 201, .inl r) := rfl
theorem contW_57 (g : Gw) (b i : Nat) (r : Nat → Int32) (f : Nat → UInt32) (d : Nat → UInt64) : contW g 57 b i r f d = .inl (gC g 0, 6, .inl r) := rfl
theorem contW_58 (g : Gw) (b i : Nat) (r : Nat → Int32) (f : Nat → UInt32) (d : Nat → UInt64) : contW g 58 b i r f d = .inl (gC g 0, 5, .inl r) := rfl
theorem contW_59 (g : Gw) (b i : Nat) (r : Nat → Int32) (f : Nat → UInt32) (d : Nat → UInt64) : contW g 59 b i r f d = .inl (gC g 0, 5, .inl r) := rfl
theorem contW_60 (g : Gw) (b i : Nat) (r : Nat → Int32) (f : Nat → UInt32) (d : Nat → UInt64) : contW g 60 b i r f d = .inl (gC g 0, 5, .inl r) := rfl
theorem contW_61 (g : Gw) (b i : Nat) (r : Nat → Int32) (f : Nat → UInt32) (d : Nat → UInt64) : contW g 61 b i r f d = .inl (gC g 0, 5, .inl r) := rfl
theorem contW_62 (g : Gw) (b i : Nat) (r : Nat → Int32) (f : Nat → UInt32) (d : Nat → UInt64) : contW g 62 b i r f d = .inl (gC g 0, 5, .inl r) := rfl
theorem contW_63 (g : Gw) (b i : Nat) (r : Nat → Int32) (f : Nat → UInt32) (d : Nat → UInt64) : contW g 63 b i r f d = .inl (gC g 0, 64, .inl r) := rfl
theorem contW_64 (g : Gw) (b i : Nat) (r : Nat → Int32) (f : Nat → UInt32) (d : Nat → UInt64) : contW g 64 b i r f d = .inl (gC g 0, 5, .inl r) := rfl
theorem contW_65 (g : Gw) (b i : Nat) (r : Nat → Int32) (f : Nat → UInt32) (d : Nat → UInt64) : contW g 65 b i r f d = .inl (gC g 0, 5, .inl r) := rfl
theorem contW_66 (g : Gw) (b i : Nat) (r : Nat → Int32) (f : Nat → UInt32) (d : Nat → UInt64) : contW g 66 b i r f d = .inl (gC g 0, 5, .inl r) := rfl
theorem contW_67 (g : Gw) (b i : Nat) (r : Nat → Int32) (f : Nat → UInt32) (d : Nat → UInt64) : contW g 67 b i r f d = .inl (gC g 0, 5, .inl r) := rfl
theorem contW_68 (g : Gw) (b i : Nat) (r : Nat → Int32) (f : Nat → UInt32) (d : Nat → UInt64) : contW g 68 b i r f d = .inl (gC g 0, 5, .inl r) := rfl
theorem contW_69 (g : Gw) (b i : Nat) (r : Nat → Int32) (f : Nat → UInt32) (d : Nat → UInt64) : contW g 69 b i r f d = .inl (gC g 0, 5, .inl r) := rfl
theorem contW_70 (g : Gw) (b i : Nat) (r : Nat → Int32) (f : Nat → UInt32) (d : Nat → UInt64) : contW g 70 b i r f d = .inl (gC g 0, 5, .inl r) := rfl
theorem contW_71 (g : Gw) (b i : Nat) (r : Nat → Int32) (f : Nat → UInt32) (d : Nat → UInt64) : contW g 71 b i r f d = .inl (gC g 1, 5, .inl r) := rfl
theorem contW_72 (g : Gw) (b i : Nat) (r : Nat → Int32) (f : Nat → UInt32) (d : Nat → UInt64) : contW g 72 b i r f d = .inl (gC g 0, 5, .inl r) := rfl
theorem contW_73 (g : Gw) (b i : Nat) (r : Nat → Int32) (f : Nat → UInt32) (d : Nat → UInt64) : contW g 73 b i r f d = .inl (gC g 0, 5, .inl r) := rfl
theorem contW_74 (g : Gw) (b i : Nat) (r : Nat → Int32) (f : Nat → UInt32) (d : Nat → UInt64) : contW g 74 b i r f d = .inl (gC g 3, 5, .inr (.inr (.inl f))) := rfl
theorem contW_75 (g : Gw) (b i : Nat) (r : Nat → Int32) (f : Nat → UInt32) (d : Nat → UInt64) : contW g 75 b i r f d = .inl (gC g 0, 5, .inl r) := rfl
theorem contW_76 (g : Gw) (b i : Nat) (r : Nat → Int32) (f : Nat → UInt32) (d : Nat → UInt64) : contW g 76 b i r f d = .inl (gC g 1, 5, .inl r) := rfl
theorem contW_77 (g : Gw) (b i : Nat) (r : Nat → Int32) (f : Nat → UInt32) (d : Nat → UInt64) : contW g 77 b i r f d = .inl (gC g 0, 5, .inl r) := rfl
theorem contW_78 (g : Gw) (b i : Nat) (r : Nat → Int32) (f : Nat → UInt32) (d : Nat → UInt64) : contW g 78 b i r f d = .inl (gC g 0, 5, .inl r) := rfl
theorem contW_79 (g : Gw) (b i : Nat) (r : Nat → Int32) (f : Nat → UInt32) (d : Nat → UInt64) : contW g 79 b i r f d = .inl (gC g 3, 5, .inr (.inr (.inl f))) := rfl
theorem contW_80 (g : Gw) (b i : Nat) (r : Nat → Int32) (f : Nat → UInt32) (d : Nat → UInt64) : contW g 80 b i r f d = .inl (gC g 4, 5, .inr (.inr (.inr (.inl d)))) := rfl
theorem contW_81 (g : Gw) (b i : Nat) (r : Nat → Int32) (f : Nat → UInt32) (d : Nat → UInt64) : contW g 81 b i r f d = .inl (gC g 0, 5, .inl r) := rfl
theorem contW_82 (g : Gw) (b i : Nat) (r : Nat → Int32) (f : Nat → UInt32) (d : Nat → UInt64) : contW g 82 b i r f d = .inl (gC g 0, 1000, .inl r) := rfl
theorem contW_83 (g : Gw) (b i : Nat) (r : Nat → Int32) (f : Nat → UInt32) (d : Nat → UInt64) : contW g 83 b i r f d = .inl (gC g 0, 255, .inl r) := rfl
theorem contW_84 (g : Gw) (b i : Nat) (r : Nat → Int32) (f : Nat → UInt32) (d : Nat → UInt64) : contW g 84 b i r f d = .inl (gC g 1, 19, .inl r) := rfl
theorem contW_85 (g : Gw) (b i : Nat) (r : Nat → Int32) (f : Nat → UInt32) (d : Nat → UInt64) : contW g 85 b i r f d = .inl (gC g 1, 3, .inl r) := rfl
theorem contW_86 (g : Gw) (b i : Nat) (r : Nat → Int32) (f : Nat → UInt32) (d : Nat → UInt64) : contW g 86 b i r f d = .inl (gC g 1, 3, .inl r) := rfl
theorem contW_87 (g : Gw) (b i : Nat) (r : Nat → Int32) (f : Nat → UInt32) (d : Nat → UInt64) : contW g 87 b i r f d = .inl (gC g 0, 200, .inl r) := rfl
theorem contW_88 (g : Gw) (b i : Nat) (r : Nat → Int32) (f : Nat → UInt32) (d : Nat → UInt64) : contW g 88 b i r f d = .inl (gC g 0, 4000, .inl r) := rfl
theorem contW_89 (g : Gw) (b i : Nat) (r : Nat → Int32) (f : Nat → UInt32) (d : Nat → UInt64) : contW g 89 b i r f d = .inl (gC g 0, 4000, .inl r) := rfl
theorem contW_90 (g : Gw) (b i : Nat) (r : Nat → Int32) (f : Nat → UInt32) (d : Nat → UInt64) : contW g 90 b i r f d = .inl (gC g 0, 4000, .inl r) := rfl
theorem contW_91 (g : Gw) (b i : Nat) (r : Nat → Int32) (f : Nat → UInt32) (d : Nat → UInt64) : contW g 91 b i r f d = .inl (gC g 0, 4000, .inl r) := rfl
theorem contW_98 (g : Gw) (b i : Nat) (r : Nat → Int32) (f : Nat → UInt32) (d : Nat → UInt64) : contW g 98 b i r f d = .inl (gC g 0, 6, .inl r) := rfl
theorem contW_99 (g : Gw) (b i : Nat) (r : Nat → Int32) (f : Nat → UInt32) (d : Nat → UInt64) : contW g 99 b i r f d = .inl (gC g 0, 6, .inl r) := rfl
def layW (g : Gw) : List (Nat × Nat × Nat) := (List.range 100).flatMap (fun κ => (List.range (nbW g κ)).flatMap (fun b => (List.range (niW κ)).map (fun i => (κ, b, i))))
theorem layW_mem {g : Gw} {κ b i : Nat} (h1 : κ < 100) (h2 : b < nbW g κ) (h3 : i < niW κ) : (κ, b, i) ∈ layW g :=
  List.mem_flatMap.mpr ⟨κ, List.mem_range.mpr h1, List.mem_flatMap.mpr ⟨b, List.mem_range.mpr h2, List.mem_map.mpr ⟨i, List.mem_range.mpr h3, rfl⟩⟩⟩
abbrev cellW (g : Gw) (M : Mw) (κ b i : Nat) : va_E := contW g κ b i (M.1 κ b i) (M.2.1 κ b i) (M.2.2 κ b i)
def wlW (g : Gw) (M : Mw) : va_W := (layW g).map (fun q => (gA g q.1 q.2.1 q.2.2, cellW g M q.1 q.2.1 q.2.2))
theorem wlW_at {g : Gw} {M : Mw} {k : Nat} {κ b i : Nat} (h : (layW g)[k]? = some (κ, b, i)) : (wlW g M)[k]? = some (gA g κ b i, cellW g M κ b i) := by
  unfold wlW
  rw [List.getElem?_map, h]
  rfl
theorem wlW_get {g : Gw} {κ b i : Nat} (h : (κ, b, i) ∈ layW g) : ∃ k : Nat, (layW g)[k]? = some (κ, b, i) ∧ ∀ M : Mw, (wlW g M)[k]? = some (gA g κ b i, cellW g M κ b i) := by
  obtain ⟨k, hk⟩ := List.getElem?_of_mem h
  exact ⟨k, hk, fun M => wlW_at hk⟩
theorem wlW_inv {g : Gw} {M : Mw} {k : Nat} {q : Nat × va_E} (h : (wlW g M)[k]? = some q) : ∃ κ b i, (layW g)[k]? = some (κ, b, i) ∧ q = (gA g κ b i, cellW g M κ b i) := by
  unfold wlW at h
  rw [List.getElem?_map] at h
  cases ht : (layW g)[k]? with
  | none => rw [ht] at h; cases h
  | some t =>
    obtain ⟨κ, b, i⟩ := t
    rw [ht] at h
    exact ⟨κ, b, i, rfl, (Option.some.inj h).symm⟩
/-- that the cells are apart doesn't hang on what they hold -/
theorem wlW_D {g : Gw} {M M' : Mw} {A : Nat → Prop} (h : va_D A (wlW g M)) : va_D A (wlW g M') := by
  refine ⟨fun i j p q hi hj hpq => ?_, fun k q hk => ?_⟩
  · obtain ⟨κ, b, i1, h1, rfl⟩ := wlW_inv hi
    obtain ⟨κ', b', i2, h2, rfl⟩ := wlW_inv hj
    exact h.1 i j _ _ (wlW_at h1) (wlW_at h2) hpq
  · obtain ⟨κ, b, i1, h1, rfl⟩ := wlW_inv hk
    exact h.2 k (gA g κ b i1, cellW g M κ b i1) (wlW_at h1)
theorem wlW_set {g : Gw} {M M' : Mw} {A : Nat → Prop} {k κ b i : Nat} {e : va_E} (hD : va_D A (wlW g M)) (hk : (layW g)[k]? = some (κ, b, i)) (h1 : cellW g M' κ b i = e)
    (h2 : ∀ κ' b' i' : Nat, ¬ (κ' = κ ∧ b' = b ∧ i' = i) → cellW g M' κ' b' i' = cellW g M κ' b' i') : (wlW g M).set k (gA g κ b i, e) = wlW g M' := by
  have hkk := wlW_at (M := M) hk
  have hlt : k < (wlW g M).length := (List.getElem?_eq_some_iff.mp hkk).1
  apply List.ext_getElem?
  intro j
  by_cases hj : j = k
  · subst hj
    rw [List.getElem?_set_self hlt, wlW_at hk, h1]
  · rw [List.getElem?_set_ne (Ne.symm hj)]
    cases ht : (layW g)[j]? with
    | none =>
      unfold wlW
      rw [List.getElem?_map, List.getElem?_map, ht]
      rfl
    | some t =>
      obtain ⟨κ', b', i'⟩ := t
      rw [wlW_at ht, wlW_at ht]
      have hne : ¬ (κ' = κ ∧ b' = b ∧ i' = i) := by
        rintro ⟨rfl, rfl, rfl⟩
        exact hj (hD.1 j k _ _ (wlW_at (M := M) ht) hkk rfl)
      rw [h2 κ' b' i' hne]
/-! writing -/
def rIw (M : Mw) (κ b i : Nat) (r : Nat → Int32) : Mw := (fun κ' b' i' => if κ' = κ ∧ b' = b ∧ i' = i then r else M.1 κ' b' i', M.2)
def rFw (M : Mw) (κ b i : Nat) (r : Nat → UInt32) : Mw := (M.1, fun κ' b' i' => if κ' = κ ∧ b' = b ∧ i' = i then r else M.2.1 κ' b' i', M.2.2)
def rDw (M : Mw) (κ b i : Nat) (r : Nat → UInt64) : Mw := (M.1, M.2.1, fun κ' b' i' => if κ' = κ ∧ b' = b ∧ i' = i then r else M.2.2 κ' b' i')
def uIw (M : Mw) (κ b i j : Nat) (v : Int32) : Mw := rIw M κ b i (upd (M.1 κ b i) j v)
def uFw (M : Mw) (κ b i j : Nat) (v : UInt32) : Mw := rFw M κ b i (vf_upd (M.2.1 κ b i) j v)
def uDw (M : Mw) (κ b i j : Nat) (v : UInt64) : Mw := rDw M κ b i (vf_upd (M.2.2 κ b i) j v)
theorem rIw_at (g : Gw) (M : Mw) (κ b i : Nat) (r : Nat → Int32) : cellW g (rIw M κ b i r) κ b i = contW g κ b i r (M.2.1 κ b i) (M.2.2 κ b i) := by
  show contW g κ b i (if κ = κ ∧ b = b ∧ i = i then r else M.1 κ b i) _ _ = _
  rw [if_pos ⟨rfl, rfl, rfl⟩]
  rfl
theorem rFw_at (g : Gw) (M : Mw) (κ b i : Nat) (r : Nat → UInt32) : cellW g (rFw M κ b i r) κ b i = contW g κ b i (M.1 κ b i) r (M.2.2 κ b i) := by
  show contW g κ b i _ (if κ = κ ∧ b = b ∧ i = i then r else M.2.1 κ b i) _ = _
  rw [if_pos ⟨rfl, rfl, rfl⟩]
  rfl
theorem rDw_at (g : Gw) (M : Mw) (κ b i : Nat) (r : Nat → UInt64) : cellW g (rDw M κ b i r) κ b i = contW g κ b i (M.1 κ b i) (M.2.1 κ b i) r := by
  show contW g κ b i _ _ (if κ = κ ∧ b = b ∧ i = i then r else M.2.2 κ b i) = _
  rw [if_pos ⟨rfl, rfl, rfl⟩]
  rfl
theorem rIw_ne (g : Gw) (M : Mw) {κ b i : Nat} (r : Nat → Int32) (κ' b' i' : Nat) (h : ¬ (κ' = κ ∧ b' = b ∧ i' = i)) : cellW g (rIw M κ b i r) κ' b' i' = cellW g M κ' b' i' := by
  show contW g κ' b' i' (if κ' = κ ∧ b' = b ∧ i' = i then r else M.1 κ' b' i') _ _ = _
  rw [if_neg h]
  rfl
theorem rFw_ne (g : Gw) (M : Mw) {κ b i : Nat} (r : Nat → UInt32) (κ' b' i' : Nat) (h : ¬ (κ' = κ ∧ b' = b ∧ i' = i)) : cellW g (rFw M κ b i r) κ' b' i' = cellW g M κ' b' i' := by
  show contW g κ' b' i' _ (if κ' = κ ∧ b' = b ∧ i' = i then r else M.2.1 κ' b' i') _ = _
  rw [if_neg h]
  rfl
theorem rDw_ne (g : Gw) (M : Mw) {κ b i : Nat} (r : Nat → UInt64) (κ' b' i' : Nat) (h : ¬ (κ' = κ ∧ b' = b ∧ i' = i)) : cellW g (rDw M κ b i r) κ' b' i' = cellW g M κ' b' i' := by
  show contW g κ' b' i' _ _ (if κ' = κ ∧ b' = b ∧ i' = i then r else M.2.2 κ' b' i') = _
  rw [if_neg h]
  rfl
/-! the text constants, and the statics of the library that are read -/
def txStW (i : Nat) : List Nat := match i with
  | 0 => [97, 102, 116, 101, 114]
  | 1 => [98, 111, 97, 114, 100]
  | 2 => [99, 108, 111, 115, 101]
  | 3 => [99, 121, 99, 108, 101]
  | 4 => [104, 97, 110, 103]
  | 5 => [106, 111, 98]
  | 6 => [108, 101, 97, 115, 116]
  | 7 => [108, 111, 119]
  | 8 => [109, 111, 115, 116]
  | 9 => [110, 111, 100, 101]
  | 10 => [111, 112, 101, 110]
  | 11 => [112, 101, 114, 105, 111, 100]
  | 12 => [114, 111, 111, 116]
  | 13 => [115, 107, 105, 112]
  | 14 => [115, 108, 101, 101, 112]
  | 15 => [115, 108, 111, 119]
  | 16 => [115, 116, 111, 112]
  | 17 => [116, 97, 115, 107]
  | 18 => [116, 105, 99, 107]
  | 19 => [116, 105, 99, 107, 115]
  | 20 => [116, 105, 109, 101, 115]
  | 21 => [117, 110, 100, 101, 114]
  | 22 => [119, 97, 116, 99, 104, 101, 114]
  | 23 => [119, 114, 111, 110, 103]
  | _ => []
def nStW : Nat := 24
def lenStW (i : Nat) : Nat := (txStW i).length
def chStW (i j : Nat) : Int32 := nI ((txStW i).getD j 0)
def tabStW : List (String × Nat × String × Nat) := [(RX1, 100, "hang", 4), (RX1, 102, "stop", 16), (RX1, 104, "skip", 13), (RX1, 106, "slow", 15), (RX1, 108, "wrong", 23), (RX1, 110, "sleep", 14), (RX1, 115, "ticks", 19), (RX1, 121, "cycle", 3), (RX1, 123, "low", 7), (RX1, 137, "root", 12), (RX1, 142, "under", 21), (RX1, 148, "period", 11), (RX1, 150, "open", 10), (RX1, 152, "close", 2), (RX1, 154, "least", 6), (RX1, 156, "most", 8), (RX1, 169, "after", 0), (RX1, 183, "tick", 18), (RX1, 188, "job", 5), (RX1, 190, "times", 20), (RX1, 66, "board", 1), (RX1, 78, "watcher", 22), (RX1, 83, "task", 17), (RX1, 88, "node", 9), (RX10, 231, "board", 1), (RX10, 233, "ticks", 19), (RX10, 239, "cycle", 3), (RX10, 241, "low", 7), (RX10, 247, "root", 12), (RX10, 249, "under", 21), (RX10, 251, "period", 11), (RX10, 253, "open", 10), (RX10, 255, "close", 2), (RX10, 257, "least", 6), (RX10, 259, "most", 8), (RX10, 261, "after", 0), (RX10, 266, "hang", 4), (RX10, 268, "stop", 16), (RX10, 270, "skip", 13), (RX10, 272, "slow", 15), (RX10, 274, "wrong", 23), (RX10, 276, "sleep", 14), (RX10, 278, "tick", 18), (RX10, 283, "job", 5), (RX10, 284, "node", 9), (RX10, 286, "times", 20), (RX10, 298, "watcher", 22), (RX10, 303, "task", 17)]
def tabNestW : List (String × Nat × MethodName × String) := [(RX9, 18, yX0_init, "WatchStack"), (RX9, 33, yX2_init, "WatchStack"), (RX9, 40, yX3_init, "WatchStack"), (RX9, 57, yX8_init, "WatchStack"), (RX9, 9, yX1_init, "WatchStack"), (RX1, 11, yX6_init, "WatchStack"), (RX1, 20, yX0_init, "WatchStack"), (RX3, 38, yX9_divideUp, "WatchStack"), (RX3, 45, yX9_divideCut, "WatchStack"), (RX5, 11, yX0_init, "WatchStack"), (RX5, 114, yX9_divides, "WatchStack"), (RX5, 26, yX4_init, "WatchStack"), (RX5, 267, yX9_isJob, "WatchStack"), (RX5, 60, yX7_init, "WatchStack")]
def SSw (g : Gw) (A : Nat → Prop) (U : State) (H : Heap) : Prop :=
  ∀ i : Nat, i < nStW → va_O "java/lang/String" (gK g i) A U H ∧ va_OF "java/lang/String" "coder" "B" (.int 0) (gK g i) A U H ∧ va_OF "java/lang/String" "value" "[B" (.ref (gV g i)) (gK g i) A U H ∧ va_T .byte (gV g i) (lenStW i) (fun j => .int (chStW i j)) A U H
theorem SSw.kept {g : Gw} {A : Nat → Prop} {U : State} {H H1 : Heap} (h : SSw g A U H) (hq : ∀ a : Nat, a < H.size → ¬ A a → H1[a]? = H[a]?) : SSw g A U H1 :=
  fun i hi => ⟨(h i hi).1.kept hq, (h i hi).2.1.kept hq, (h i hi).2.2.1.kept hq, (h i hi).2.2.2.kept hq⟩
theorem SSw.narrow {g : Gw} {A B : Nat → Prop} {U : State} {H : Heap} (h : SSw g A U H) (hAB : ∀ q, B q → A q) : SSw g B U H :=
  fun i hi => ⟨(h i hi).1.narrow hAB, (h i hi).2.1.narrow hAB, (h i hi).2.2.1.narrow hAB, (h i hi).2.2.2.narrow hAB⟩
theorem SSw.moved {g : Gw} {A : Nat → Prop} {u U : State} {H : Heap} (hvm : u.vm.Alike U.vm) (h : SSw g A u H) : SSw g A U H :=
  fun i hi => ⟨va_O.moved hvm (h i hi).1, va_OF.moved hvm (h i hi).2.1, va_OF.moved hvm (h i hi).2.2.1, va_T.moved hvm (h i hi).2.2.2⟩
def SKw (g : Gw) (A : Nat → Prop) (U : State) (H : Heap) : Prop :=
  SSw g A U H ∧ (∀ q ∈ tabStW, vk_R q.1 q.2.1 q.2.2.1 (gK g q.2.2.2) U) ∧ va_Z "java/lang/String" "COMPACT_STRINGS" "Z" (.int 1) A U H ∧ (∃ v : Value, (v = .null ∨ ∃ a : Nat, v = .ref a) ∧ va_Z "jdk/internal/util/Preconditions" "SIOOBE_FORMATTER" "Ljava/util/function/BiFunction;" v A U H) ∧ ∀ q ∈ tabNestW, va_Nw (.methodLinkNest q.1 q.2.1 q.2.2.1 q.2.2.2) U
theorem SKw.kept {g : Gw} {A : Nat → Prop} {U : State} {H H1 : Heap} (h : SKw g A U H) (hq : ∀ a : Nat, a < H.size → ¬ A a → H1[a]? = H[a]?) : SKw g A U H1 :=
  ⟨h.1.kept hq, h.2.1, h.2.2.1.kept hq, h.2.2.2.1.imp fun _ z => ⟨z.1, z.2.kept hq⟩, h.2.2.2.2⟩
theorem SKw.narrow {g : Gw} {A B : Nat → Prop} {U : State} {H : Heap} (h : SKw g A U H) (hAB : ∀ q, B q → A q) : SKw g B U H :=
  ⟨h.1.narrow hAB, h.2.1, h.2.2.1.narrow hAB, h.2.2.2.1.imp fun _ z => ⟨z.1, z.2.narrow hAB⟩, h.2.2.2.2⟩
theorem SKw.warm {g : Gw} {A : Nat → Prop} {s U : State} {H : Heap} (hW : s.WarmedH U.vm) (h : SKw g A s H) : SKw g A U H :=
  ⟨h.1.moved hW.alike, fun q hq => (h.2.1 q hq).warm hW, h.2.2.1.moved hW.alike, h.2.2.2.1.imp fun _ z => ⟨z.1, z.2.moved hW.alike⟩, fun q hq => va_Nw.warmM hW (h.2.2.2.2 q hq)⟩
theorem SKw.same {g : Gw} {A : Nat → Prop} {u U : State} {H : Heap} (hv : U.vm = u.vm) (h : SKw g A u H) : SKw g A U H :=
  ⟨h.1.moved (by rw [hv]; exact Vm.Alike.refl u.vm), fun q hq => (h.2.1 q hq).same hv, h.2.2.1.moved (by rw [hv]; exact Vm.Alike.refl u.vm), h.2.2.2.1.imp fun _ z => ⟨z.1, z.2.moved (by rw [hv]; exact Vm.Alike.refl u.vm)⟩, fun q hq => va_Nw.same rfl hv.symm (h.2.2.2.2 q hq)⟩
/-- what a method may change -/
def AAw (g : Gw) (sz : Nat) : Nat → Prop := fun q => (∃ κ b i : Nat, (κ, b, i) ∈ layW g ∧ q = gA g κ b i) ∨ sz ≤ q
theorem wlW_A {g : Gw} {M M' : Mw} {A : Nat → Prop} (sz : Nat) (h : va_D A (wlW g M)) : va_D (AAw g sz) (wlW g M') := by
  refine ⟨(wlW_D h).1, fun k q hk => ?_⟩
  obtain ⟨κ, b, i, h1, rfl⟩ := wlW_inv hk
  exact Or.inl ⟨κ, b, i, List.mem_of_getElem? h1, rfl⟩
theorem AAw_mono {g : Gw} {a b : Nat} (h : a ≤ b) : ∀ q, AAw g b q → AAw g a q := fun q hq => hq.imp id (fun z => Nat.le_trans h z)
/-! THE JUDGEMENT: from here the machine goes on as the computation says -/
abbrev Xw : Type := Program × Launch × Env × Room × State × MethodId × Array Value × List Frame × Method × Code × Nat × Nat × Nat
def Qw (g : Gw) (sz : Nat) (o : Option Value × Mw) : Array Value → State → Outcome → State → Prop := fun _ st oc t => oc = .returned o.1 ∧ va_P (gD g) vwCl (wlW g o.2) t.heap ∧ va_F (AAw g sz) st t
def Sx (p : Program) (l : Launch) (e : Env) (R : Room) (s : State) (m : MethodId) (args : Array Value) (below : List Frame) (meth : Method) (c : Code) (nL mc ms : Nat) (g : Gw) {β : Type} (out : β → Option Value × Mw) (M : Mw) (k n pc : Nat) (lv : List (Nat × Value)) (st : List Value) (comp : Option β) : Prop :=
  ∀ r : β, comp = some r → ∀ (H : Heap) (locs : List Loc) (ls : Array Slot), va_P (gD g) vwCl (wlW g M) H → va_S (AAw g s.heap.size) s.heap H locs → lv_has ls nL lv → W p l e R s m args below meth c H locs k n (MQ below (Qw g s.heap.size (out r)) args s mc ms (AAw g s.heap.size)) (F0 m pc ls st)
def Sw (g : Gw) (x : Xw) {β : Type} (out : β → Option Value × Mw) (M : Mw) (k n pc : Nat) (lv : List (Nat × Value)) (st : List Value) (comp : Option β) : Prop :=
  Sx x.1 x.2.1 x.2.2.1 x.2.2.2.1 x.2.2.2.2.1 x.2.2.2.2.2.1 x.2.2.2.2.2.2.1 x.2.2.2.2.2.2.2.1 x.2.2.2.2.2.2.2.2.1 x.2.2.2.2.2.2.2.2.2.1 x.2.2.2.2.2.2.2.2.2.2.1 x.2.2.2.2.2.2.2.2.2.2.2.1 x.2.2.2.2.2.2.2.2.2.2.2.2 g out M k n pc lv st comp
/-- what holds throughout a method -/
def Cx (p : Program) (R : Room) (s : State) (m : MethodId) (args : Array Value) (meth : Method) (c : Code) (nL0 mc ms : Nat) (g : Gw) (cc : ByteArray) (own : String) (nL : Nat) (ret : Option FieldType) (d : Nat) : Prop :=
  p.tables.exec = Jvm.exec ∧ c.code = cc ∧ c.maxLocals = nL ∧ s.vm.findClass own = some m.cls ∧ (∀ w ∈ U0w, w.before args s = true) ∧ va_K (gD g) vwCl (tyW g) s ∧ (∀ M : Mw, va_D (AAw g s.heap.size) (wlW g M)) ∧ SKw g (AAw g s.heap.size) s s.heap ∧ R = { frames := d, cells := mc, slots := ms, locals := 100 * d } ∧ meth.locks = false ∧ meth.sig.returnType = ret ∧ nL0 = nL
def Cw (g : Gw) (x : Xw) (cc : ByteArray) (own : String) (nL : Nat) (ret : Option FieldType) (d : Nat) : Prop :=
  Cx x.1 x.2.2.2.1 x.2.2.2.2.1 x.2.2.2.2.2.1 x.2.2.2.2.2.2.1 x.2.2.2.2.2.2.2.2.1 x.2.2.2.2.2.2.2.2.2.1 x.2.2.2.2.2.2.2.2.2.2.1 x.2.2.2.2.2.2.2.2.2.2.2.1 x.2.2.2.2.2.2.2.2.2.2.2.2 g cc own nL ret d
/-- a method's contract: where the computation ends, the method ends so -/
def PIw (g : Gw) (M : Mw) (sz : Nat) (U : State) : Prop := U.heap.size = sz ∧ va_P (gD g) vwCl (wlW g M) U.heap ∧ va_K (gD g) vwCl (tyW g) U ∧ va_D (fun _ => True) (wlW g M) ∧ SKw g (AAw g sz) U U.heap
def Kw (g : Gw) (l : Launch) (y : MethodName) (cc : ByteArray) (nL : Nat) (ret : Option FieldType) (d mc ms : Nat) (av : List Value) (M : Mw) {β : Type} (out : β → Option Value × Mw) (comp : Option β) : Prop :=
  ∀ (sz : Nat) (r : β), comp = some r → Met l y (.code y cc nL ret :: U0w) { frames := d, cells := mc, slots := ms, locals := 100 * d } (va_Pc av (PIw g M sz)) (Qw g sz (out r)) mc ms (AAw g sz)
set_option maxHeartbeats 4000000 in
theorem Kw.of {g : Gw} {l : Launch} {y : MethodName} {cc : ByteArray} {nL : Nat} {ret : Option FieldType} {d mc ms : Nat} {av : List Value} {M : Mw} {β : Type} {out : β → Option Value × Mw} {comp : Option β} {own : String} {lv0 : List (Nat × Value)} (hy : plainName y.cls = true) (hown : y.cls = own) (hlen : (lg_sl av).length ≤ nL) (hlv : lv_args 0 av = lv0)
    (body : ∀ x : Xw, Cw g x cc own nL ret d → x.2.1 = l → x.2.2.2.2.2.2.2.2.2.2.2 = (mc, ms) → Sw g x out M 0 0 0 lv0 [] comp) : Kw g l y cc nL ret d mc ms av M out comp := by
  intro sz r hr
  refine Met.ofW (cc := cc) (maxL := nL) (ret := ret) hy rfl ?_
  intro p e s m args below meth c s₁ B hml hv
  obtain ⟨rfl, hsz, hP, hK, hD, hSK⟩ := hv
  have hts := atoms_spec (ws := .code y cc nL ret :: U0w) B.pre
  have hfc : s.vm.findClass own = some m.cls := by rw [← hown]; exact findClass_of_methodNamed B.named
  subst hsz
  have C : Cw g (p, l, e, (headSpec (Cond.code y cc nL ret :: U0w) { frames := d, cells := mc, slots := ms, locals := 100 * d }).room, s, m, av.toArray, below, meth, c, nL, mc, ms) cc own nL ret d :=
    ⟨B.exec, B.bytes, hml, hfc, fun w hw => hts w (List.mem_cons_of_mem _ hw), hK, fun M' => wlW_A _ hD, hSK, rfl, B.notSynchronized, B.returns, rfl⟩
  have hb := body _ C rfl rfl
  have hl := lv_entry av (n := nL) hlen
  rw [lg_entry_eq]
  generalize (lg_sl av ++ List.replicate (nL - (lg_sl av).length) Slot.unset).toArray = ls at hl ⊢
  rw [hlv] at hl
  exact hb r hr s.heap [] ls hP va_S.rf hl
