/-! ===== the heap behind the constructors: its shape ===== -/
def am_f49 : Nat → Option Nat := fun j => if j < 5 then some (50 + j) else none
def am_f65 : Nat → Option Nat := (va_up (va_up (va_up (fun _ => none) 0 (some 1000011)) 1 (some 1000012)) 2 (some 1000013))
def am_f66 : Nat → Option Nat := (va_up (va_up (va_up (va_up (fun _ => none) 0 (some 1000014)) 1 (some 1000015)) 2 (some 1000016)) 3 (some 1000017))
def am_C0 : am_S := [.inr (.inr (6, [some (.ref 1), some (.ref 3), some (.ref 13), some (.ref 23), some (.ref 34), none, some (.ref 45), some (.ref 59), some (.ref 61), some (.ref 62), some (.ref 63), none])),
  .inr (.inr (4, [none, none, some (.ref 2), none, none, none, none, none, none])),
  .inl (1, 500),
  .inr (.inr (3, [none, none, none, some (.ref 4), some (.ref 5), some (.ref 6), some (.ref 7), some (.ref 8), some (.ref 9), some (.ref 10), some (.ref 11), some (.ref 12)])),
  .inl (0, 5),
  .inl (0, 5),
  .inl (0, 5),
  .inl (0, 5),
  .inl (0, 5),
  .inl (0, 5),
  .inl (0, 5),
  .inl (0, 5),
  .inl (0, 4),
  .inr (.inr (3, [none, none, none, some (.ref 14), some (.ref 15), some (.ref 16), some (.ref 17), some (.ref 18), some (.ref 19), some (.ref 20), some (.ref 21), some (.ref 22)])),
  .inl (0, 5),
  .inl (0, 5),
  .inl (0, 5),
  .inl (0, 5),
  .inl (0, 5),
  .inl (0, 5),
  .inl (0, 5),
  .inl (0, 5),
  .inl (0, 4),
  .inr (.inr (0, [none, some (.ref 24), some (.ref 25), some (.ref 26), some (.ref 27), some (.ref 28), some (.ref 29), some (.ref 30), some (.ref 31), some (.ref 32), some (.ref 33), some (.ref 3)])),
  .inl (0, 80),
  .inl (0, 80),
  .inl (0, 80),
  .inl (0, 80),
  .inl (2, 80),
  .inl (0, 80),
  .inl (0, 5),
  .inl (0, 5),
  .inl (0, 5),
  .inl (0, 3),
  .inr (.inr (0, [none, some (.ref 35), some (.ref 36), some (.ref 37), some (.ref 38), some (.ref 39), some (.ref 40), some (.ref 41), some (.ref 42), some (.ref 43), some (.ref 44), some (.ref 3)])),
  .inl (0, 80),
  .inl (0, 80),
  .inl (0, 80),
  .inl (0, 80),
  .inl (2, 80),
  .inl (0, 80),
  .inl (0, 5),
  .inl (0, 5),
  .inl (0, 5),
  .inl (0, 3),
  .inr (.inr (2, [some (.ref 46), some (.ref 47), some (.ref 48), some (.ref 3), some (.ref 49), some (.ref 55), some (.ref 56), some (.ref 57), some (.ref 58), none, none, none, none, none])),
  .inl (0, 5),
  .inl (0, 5),
  .inl (0, 5),
  .inr (.inl (4, 5, am_f49)),
  .inl (0, 15),
  .inl (0, 15),
  .inl (0, 15),
  .inl (0, 15),
  .inl (0, 15),
  .inl (0, 5),
  .inl (0, 6),
  .inl (0, 5),
  .inl (0, 5),
  .inr (.inr (1, [none, some (.ref 60)])),
  .inl (0, 5),
  .inr (.inr (5, [none, none])),
  .inl (0, 5),
  .inl (0, 5),
  .inr (.inr (7, [some (.ref 65), some (.ref 66), some (.ref 67), none, some (.ref 68), some (.ref 69), some (.ref 70), some (.ref 71), some (.ref 72), some (.ref 73), some (.ref 74), some (.ref 75), some (.ref 76), some (.ref 77), some (.ref 78), some (.ref 79), some (.ref 80), some (.ref 81), none, none, none, none, none, none, none, none, none, none, none, some (.ref 82), some (.ref 83), some (.ref 84), some (.ref 85), some (.ref 86), some (.ref 87), none, none, some (.ref 88), some (.ref 89), some (.ref 90), some (.ref 91), some (.ref 92), some (.ref 93), some (.ref 94), none, none, some (.ref 95), some (.ref 96), some (.ref 97), none, none, none, none, some (.ref 98), some (.ref 99), some (.ref 100), some (.ref 101), some (.ref 102), some (.ref 103), some (.ref 104), some (.ref 105), some (.ref 106), some (.ref 107)])),
  .inr (.inl (5, 3, am_f65)),
  .inr (.inl (5, 4, am_f66)),
  .inl (0, 4),
  .inl (0, 14),
  .inl (0, 10),
  .inl (0, 10),
  .inl (0, 10),
  .inl (0, 10),
  .inl (0, 10),
  .inl (0, 10),
  .inl (0, 10),
  .inl (0, 10),
  .inl (0, 5),
  .inl (0, 3),
  .inl (0, 5),
  .inl (0, 5),
  .inl (0, 500),
  .inl (0, 80),
  .inl (0, 80),
  .inl (0, 80),
  .inl (0, 80),
  .inl (0, 80),
  .inl (2, 80),
  .inl (2, 75),
  .inl (0, 5),
  .inl (0, 5),
  .inl (0, 5),
  .inl (0, 5),
  .inl (0, 5),
  .inl (0, 5),
  .inl (0, 5),
  .inl (0, 5),
  .inl (0, 5),
  .inl (0, 80),
  .inl (0, 80),
  .inl (0, 80),
  .inl (0, 80),
  .inl (0, 80),
  .inl (0, 5),
  .inl (0, 5),
  .inl (0, 5),
  .inl (0, 3),
  .inl (2, 80),
  .inl (3, 1)]
variable {L : Nat} {xs : Nat → Int32} {d mi pc : Nat} {lv lv' : am_V} {st r : List Value} {h : am_M} {o : am_L} {g : Nat} {Q : Option Value → am_M → am_L → Nat → Prop} {T : Nat → am_M → am_L → Nat → Prop} {a b c : Nat} {v : Int32}
theorem rv_0 (as : List Value) : am_recv 6 (.ref 0 :: as) am_C0 = true := rfl
theorem cl_8_0 {x1 : Int32} {x2 : Int32} {x3 : Int32} {x4 : Int32} {x5 : Int32} (hp : am_P mi pc = some (36, 8, 6, c, v)) (hh : am_hd mi = []) (hs : Nat.ble ((r.map fun w => w.category).sum) 8 = true) (H : am_X L xs d 8 0 [some (.ref 0), some (.int x1), some (.int x2), some (.int x3), some (.int x4), some (.int x5)] [] am_C0 h o g (fun w h' o' g' => am_X L xs (d + 1) mi c lv (w.toList ++ r) am_C0 h' o' g' Q T) T) : am_X L xs (d + 1) mi pc lv (.int x5 :: .int x4 :: .int x3 :: .int x2 :: .int x1 :: .ref 0 :: r) am_C0 h o g Q T :=
  xo_36 [some (.ref 0), some (.int x1), some (.int x2), some (.int x3), some (.int x4), some (.int x5)] r hp ⟨Nat.le_add_left 6 _, Nat.le_of_ble_eq_true hs, Nat.le_of_ble_eq_true rfl, (rv_0 _)⟩ rfl rfl hh H
theorem hd_0 : am_hd 0 = [] := rfl
theorem cl_23_0_108 {x1 : Int32} (hp : am_P mi pc = some (36, 23, 3, c, v)) (hh : am_hd mi = []) (hs : Nat.ble ((r.map fun w => w.category).sum) 8 = true) (H : am_X L xs d 23 0 [some (.ref 0), some (.int x1), some (.ref 108), none] [] am_C0 h o g (fun w h' o' g' => am_X L xs (d + 1) mi c lv (w.toList ++ r) am_C0 h' o' g' Q T) T) : am_X L xs (d + 1) mi pc lv (.ref 108 :: .int x1 :: .ref 0 :: r) am_C0 h o g Q T :=
  xo_36 [some (.ref 0), some (.int x1), some (.ref 108), none] r hp ⟨Nat.le_add_left 3 _, Nat.le_of_ble_eq_true hs, Nat.le_of_ble_eq_true rfl, rfl⟩ rfl rfl hh H
theorem cl_11_0 (hp : am_P mi pc = some (36, 11, 1, c, v)) (hh : am_hd mi = []) (hs : Nat.ble ((r.map fun w => w.category).sum) 8 = true) (H : am_X L xs d 11 0 [some (.ref 0)] [] am_C0 h o g (fun w h' o' g' => am_X L xs (d + 1) mi c lv (w.toList ++ r) am_C0 h' o' g' Q T) T) : am_X L xs (d + 1) mi pc lv (.ref 0 :: r) am_C0 h o g Q T :=
  xo_36 [some (.ref 0)] r hp ⟨Nat.le_add_left 1 _, Nat.le_of_ble_eq_true hs, Nat.le_of_ble_eq_true rfl, (rv_0 _)⟩ rfl rfl hh H
theorem cl_41_0_108 {x1 : Int32} (hp : am_P mi pc = some (36, 41, 3, c, v)) (hh : am_hd mi = []) (hs : Nat.ble ((r.map fun w => w.category).sum) 8 = true) (H : am_X L xs d 41 0 [some (.ref 0), some (.int x1), some (.ref 108), none] [] am_C0 h o g (fun w h' o' g' => am_X L xs (d + 1) mi c lv (w.toList ++ r) am_C0 h' o' g' Q T) T) : am_X L xs (d + 1) mi pc lv (.ref 108 :: .int x1 :: .ref 0 :: r) am_C0 h o g Q T :=
  xo_36 [some (.ref 0), some (.int x1), some (.ref 108), none] r hp ⟨Nat.le_add_left 3 _, Nat.le_of_ble_eq_true hs, Nat.le_of_ble_eq_true rfl, rfl⟩ rfl rfl hh H
theorem cl_43_0_108 {x1 : Int32} {x2 : Int32} (hp : am_P mi pc = some (36, 43, 4, c, v)) (hh : am_hd mi = []) (hs : Nat.ble ((r.map fun w => w.category).sum) 8 = true) (H : am_X L xs d 43 0 [some (.ref 0), some (.int x1), some (.int x2), some (.ref 108), none] [] am_C0 h o g (fun w h' o' g' => am_X L xs (d + 1) mi c lv (w.toList ++ r) am_C0 h' o' g' Q T) T) : am_X L xs (d + 1) mi pc lv (.ref 108 :: .int x2 :: .int x1 :: .ref 0 :: r) am_C0 h o g Q T :=
  xo_36 [some (.ref 0), some (.int x1), some (.int x2), some (.ref 108), none] r hp ⟨Nat.le_add_left 4 _, Nat.le_of_ble_eq_true hs, Nat.le_of_ble_eq_true rfl, rfl⟩ rfl rfl hh H
theorem cl_48_0_108 {x1 : Int32} {x2 : Int32} (hp : am_P mi pc = some (36, 48, 4, c, v)) (hh : am_hd mi = []) (hs : Nat.ble ((r.map fun w => w.category).sum) 8 = true) (H : am_X L xs d 48 0 [some (.ref 0), some (.int x1), some (.int x2), some (.ref 108), none] [] am_C0 h o g (fun w h' o' g' => am_X L xs (d + 1) mi c lv (w.toList ++ r) am_C0 h' o' g' Q T) T) : am_X L xs (d + 1) mi pc lv (.ref 108 :: .int x2 :: .int x1 :: .ref 0 :: r) am_C0 h o g Q T :=
  xo_36 [some (.ref 0), some (.int x1), some (.int x2), some (.ref 108), none] r hp ⟨Nat.le_add_left 4 _, Nat.le_of_ble_eq_true hs, Nat.le_of_ble_eq_true rfl, rfl⟩ rfl rfl hh H
theorem cl_55_0_108 {x1 : Int32} {x2 : Int32} {x3 : Int32} (hp : am_P mi pc = some (36, 55, 5, c, v)) (hh : am_hd mi = []) (hs : Nat.ble ((r.map fun w => w.category).sum) 8 = true) (H : am_X L xs d 55 0 [some (.ref 0), some (.int x1), some (.int x2), some (.int x3), some (.ref 108), none] [] am_C0 h o g (fun w h' o' g' => am_X L xs (d + 1) mi c lv (w.toList ++ r) am_C0 h' o' g' Q T) T) : am_X L xs (d + 1) mi pc lv (.ref 108 :: .int x3 :: .int x2 :: .int x1 :: .ref 0 :: r) am_C0 h o g Q T :=
  xo_36 [some (.ref 0), some (.int x1), some (.int x2), some (.int x3), some (.ref 108), none] r hp ⟨Nat.le_add_left 5 _, Nat.le_of_ble_eq_true hs, Nat.le_of_ble_eq_true rfl, rfl⟩ rfl rfl hh H
theorem cl_62_0_108 {x1 : Int32} {x2 : Int32} (hp : am_P mi pc = some (36, 62, 4, c, v)) (hh : am_hd mi = []) (hs : Nat.ble ((r.map fun w => w.category).sum) 8 = true) (H : am_X L xs d 62 0 [some (.ref 0), some (.int x1), some (.int x2), some (.ref 108), none] [] am_C0 h o g (fun w h' o' g' => am_X L xs (d + 1) mi c lv (w.toList ++ r) am_C0 h' o' g' Q T) T) : am_X L xs (d + 1) mi pc lv (.ref 108 :: .int x2 :: .int x1 :: .ref 0 :: r) am_C0 h o g Q T :=
  xo_36 [some (.ref 0), some (.int x1), some (.int x2), some (.ref 108), none] r hp ⟨Nat.le_add_left 4 _, Nat.le_of_ble_eq_true hs, Nat.le_of_ble_eq_true rfl, rfl⟩ rfl rfl hh H
theorem cl_64_0_108 {x1 : Int32} {x2 : Int32} {x3 : Int32} {x4 : Int32} (hp : am_P mi pc = some (36, 64, 6, c, v)) (hh : am_hd mi = []) (hs : Nat.ble ((r.map fun w => w.category).sum) 8 = true) (H : am_X L xs d 64 0 [some (.ref 0), some (.int x1), some (.int x2), some (.int x3), some (.int x4), some (.ref 108), none] [] am_C0 h o g (fun w h' o' g' => am_X L xs (d + 1) mi c lv (w.toList ++ r) am_C0 h' o' g' Q T) T) : am_X L xs (d + 1) mi pc lv (.ref 108 :: .int x4 :: .int x3 :: .int x2 :: .int x1 :: .ref 0 :: r) am_C0 h o g Q T :=
  xo_36 [some (.ref 0), some (.int x1), some (.int x2), some (.int x3), some (.int x4), some (.ref 108), none] r hp ⟨Nat.le_add_left 6 _, Nat.le_of_ble_eq_true hs, Nat.le_of_ble_eq_true rfl, rfl⟩ rfl rfl hh H
theorem cl_71_0_108 {x1 : Int32} {x2 : Int32} {x3 : Int32} {x4 : Int32} {x5 : Int32} {x6 : Int32} (hp : am_P mi pc = some (36, 71, 8, c, v)) (hh : am_hd mi = []) (hs : Nat.ble ((r.map fun w => w.category).sum) 8 = true) (H : am_X L xs d 71 0 [some (.ref 0), some (.int x1), some (.int x2), some (.int x3), some (.int x4), some (.int x5), some (.int x6), some (.ref 108), none] [] am_C0 h o g (fun w h' o' g' => am_X L xs (d + 1) mi c lv (w.toList ++ r) am_C0 h' o' g' Q T) T) : am_X L xs (d + 1) mi pc lv (.ref 108 :: .int x6 :: .int x5 :: .int x4 :: .int x3 :: .int x2 :: .int x1 :: .ref 0 :: r) am_C0 h o g Q T :=
  xo_36 [some (.ref 0), some (.int x1), some (.int x2), some (.int x3), some (.int x4), some (.int x5), some (.int x6), some (.ref 108), none] r hp ⟨Nat.le_add_left 8 _, Nat.le_of_ble_eq_true hs, Nat.le_of_ble_eq_true rfl, rfl⟩ rfl rfl hh H
theorem cl_12_0 (hp : am_P mi pc = some (36, 12, 1, c, v)) (hh : am_hd mi = []) (hs : Nat.ble ((r.map fun w => w.category).sum) 8 = true) (H : am_X L xs d 12 0 [some (.ref 0)] [] am_C0 h o g (fun w h' o' g' => am_X L xs (d + 1) mi c lv (w.toList ++ r) am_C0 h' o' g' Q T) T) : am_X L xs (d + 1) mi pc lv (.ref 0 :: r) am_C0 h o g Q T :=
  xo_36 [some (.ref 0)] r hp ⟨Nat.le_add_left 1 _, Nat.le_of_ble_eq_true hs, Nat.le_of_ble_eq_true rfl, (rv_0 _)⟩ rfl rfl hh H
theorem cl_73_0_108 {x1 : Int32} {x2 : Int32} {x3 : Int32} {x4 : Int32} (hp : am_P mi pc = some (36, 73, 6, c, v)) (hh : am_hd mi = []) (hs : Nat.ble ((r.map fun w => w.category).sum) 8 = true) (H : am_X L xs d 73 0 [some (.ref 0), some (.int x1), some (.int x2), some (.int x3), some (.int x4), some (.ref 108), none] [] am_C0 h o g (fun w h' o' g' => am_X L xs (d + 1) mi c lv (w.toList ++ r) am_C0 h' o' g' Q T) T) : am_X L xs (d + 1) mi pc lv (.ref 108 :: .int x4 :: .int x3 :: .int x2 :: .int x1 :: .ref 0 :: r) am_C0 h o g Q T :=
  xo_36 [some (.ref 0), some (.int x1), some (.int x2), some (.int x3), some (.int x4), some (.ref 108), none] r hp ⟨Nat.le_add_left 6 _, Nat.le_of_ble_eq_true hs, Nat.le_of_ble_eq_true rfl, rfl⟩ rfl rfl hh H
theorem cl_13_0 (hp : am_P mi pc = some (36, 13, 1, c, v)) (hh : am_hd mi = []) (hs : Nat.ble ((r.map fun w => w.category).sum) 8 = true) (H : am_X L xs d 13 0 [some (.ref 0), none, none, none] [] am_C0 h o g (fun w h' o' g' => am_X L xs (d + 1) mi c lv (w.toList ++ r) am_C0 h' o' g' Q T) T) : am_X L xs (d + 1) mi pc lv (.ref 0 :: r) am_C0 h o g Q T :=
  xo_36 [some (.ref 0), none, none, none] r hp ⟨Nat.le_add_left 1 _, Nat.le_of_ble_eq_true hs, Nat.le_of_ble_eq_true rfl, (rv_0 _)⟩ rfl rfl hh H
theorem cl_78_0_108 {x1 : Int32} {x2 : Int32} {x3 : Int32} {x4 : Int32} {x5 : Int32} {x6 : Int32} (hp : am_P mi pc = some (36, 78, 8, c, v)) (hh : am_hd mi = []) (hs : Nat.ble ((r.map fun w => w.category).sum) 8 = true) (H : am_X L xs d 78 0 [some (.ref 0), some (.int x1), some (.int x2), some (.int x3), some (.int x4), some (.int x5), some (.int x6), some (.ref 108), none] [] am_C0 h o g (fun w h' o' g' => am_X L xs (d + 1) mi c lv (w.toList ++ r) am_C0 h' o' g' Q T) T) : am_X L xs (d + 1) mi pc lv (.ref 108 :: .int x6 :: .int x5 :: .int x4 :: .int x3 :: .int x2 :: .int x1 :: .ref 0 :: r) am_C0 h o g Q T :=
  xo_36 [some (.ref 0), some (.int x1), some (.int x2), some (.int x3), some (.int x4), some (.int x5), some (.int x6), some (.ref 108), none] r hp ⟨Nat.le_add_left 8 _, Nat.le_of_ble_eq_true hs, Nat.le_of_ble_eq_true rfl, rfl⟩ rfl rfl hh H
theorem cl_83_0_108 {x1 : Int32} {x2 : Int32} (hp : am_P mi pc = some (36, 83, 4, c, v)) (hh : am_hd mi = []) (hs : Nat.ble ((r.map fun w => w.category).sum) 8 = true) (H : am_X L xs d 83 0 [some (.ref 0), some (.int x1), some (.int x2), some (.ref 108), none] [] am_C0 h o g (fun w h' o' g' => am_X L xs (d + 1) mi c lv (w.toList ++ r) am_C0 h' o' g' Q T) T) : am_X L xs (d + 1) mi pc lv (.ref 108 :: .int x2 :: .int x1 :: .ref 0 :: r) am_C0 h o g Q T :=
  xo_36 [some (.ref 0), some (.int x1), some (.int x2), some (.ref 108), none] r hp ⟨Nat.le_add_left 4 _, Nat.le_of_ble_eq_true hs, Nat.le_of_ble_eq_true rfl, rfl⟩ rfl rfl hh H
theorem cl_94_0_108 {x1 : Int32} {x2 : Int32} (hp : am_P mi pc = some (36, 94, 4, c, v)) (hh : am_hd mi = []) (hs : Nat.ble ((r.map fun w => w.category).sum) 8 = true) (H : am_X L xs d 94 0 [some (.ref 0), some (.int x1), some (.int x2), some (.ref 108), none] [] am_C0 h o g (fun w h' o' g' => am_X L xs (d + 1) mi c lv (w.toList ++ r) am_C0 h' o' g' Q T) T) : am_X L xs (d + 1) mi pc lv (.ref 108 :: .int x2 :: .int x1 :: .ref 0 :: r) am_C0 h o g Q T :=
  xo_36 [some (.ref 0), some (.int x1), some (.int x2), some (.ref 108), none] r hp ⟨Nat.le_add_left 4 _, Nat.le_of_ble_eq_true hs, Nat.le_of_ble_eq_true rfl, rfl⟩ rfl rfl hh H
theorem cl_96_0_108 {x1 : Int32} {x2 : Int32} {x3 : Int32} {x4 : Int32} (hp : am_P mi pc = some (36, 96, 6, c, v)) (hh : am_hd mi = []) (hs : Nat.ble ((r.map fun w => w.category).sum) 8 = true) (H : am_X L xs d 96 0 [some (.ref 0), some (.int x1), some (.int x2), some (.int x3), some (.int x4), some (.ref 108), none] [] am_C0 h o g (fun w h' o' g' => am_X L xs (d + 1) mi c lv (w.toList ++ r) am_C0 h' o' g' Q T) T) : am_X L xs (d + 1) mi pc lv (.ref 108 :: .int x4 :: .int x3 :: .int x2 :: .int x1 :: .ref 0 :: r) am_C0 h o g Q T :=
  xo_36 [some (.ref 0), some (.int x1), some (.int x2), some (.int x3), some (.int x4), some (.ref 108), none] r hp ⟨Nat.le_add_left 6 _, Nat.le_of_ble_eq_true hs, Nat.le_of_ble_eq_true rfl, rfl⟩ rfl rfl hh H
theorem cl_102_0_108 {x1 : Int32} {x2 : Int32} {x3 : Int32} (hp : am_P mi pc = some (36, 102, 5, c, v)) (hh : am_hd mi = []) (hs : Nat.ble ((r.map fun w => w.category).sum) 8 = true) (H : am_X L xs d 102 0 [some (.ref 0), some (.int x1), some (.int x2), some (.int x3), some (.ref 108), none] [] am_C0 h o g (fun w h' o' g' => am_X L xs (d + 1) mi c lv (w.toList ++ r) am_C0 h' o' g' Q T) T) : am_X L xs (d + 1) mi pc lv (.ref 108 :: .int x3 :: .int x2 :: .int x1 :: .ref 0 :: r) am_C0 h o g Q T :=
  xo_36 [some (.ref 0), some (.int x1), some (.int x2), some (.int x3), some (.ref 108), none] r hp ⟨Nat.le_add_left 5 _, Nat.le_of_ble_eq_true hs, Nat.le_of_ble_eq_true rfl, rfl⟩ rfl rfl hh H
theorem cl_107_0_108 {x1 : Int32} {x2 : Int32} (hp : am_P mi pc = some (36, 107, 4, c, v)) (hh : am_hd mi = []) (hs : Nat.ble ((r.map fun w => w.category).sum) 8 = true) (H : am_X L xs d 107 0 [some (.ref 0), some (.int x1), some (.int x2), some (.ref 108), none] [] am_C0 h o g (fun w h' o' g' => am_X L xs (d + 1) mi c lv (w.toList ++ r) am_C0 h' o' g' Q T) T) : am_X L xs (d + 1) mi pc lv (.ref 108 :: .int x2 :: .int x1 :: .ref 0 :: r) am_C0 h o g Q T :=
  xo_36 [some (.ref 0), some (.int x1), some (.int x2), some (.ref 108), none] r hp ⟨Nat.le_add_left 4 _, Nat.le_of_ble_eq_true hs, Nat.le_of_ble_eq_true rfl, rfl⟩ rfl rfl hh H
theorem cl_109_0_108 {x1 : Int32} {x2 : Int32} {x3 : Int32} (hp : am_P mi pc = some (36, 109, 5, c, v)) (hh : am_hd mi = []) (hs : Nat.ble ((r.map fun w => w.category).sum) 8 = true) (H : am_X L xs d 109 0 [some (.ref 0), some (.int x1), some (.int x2), some (.int x3), some (.ref 108), none] [] am_C0 h o g (fun w h' o' g' => am_X L xs (d + 1) mi c lv (w.toList ++ r) am_C0 h' o' g' Q T) T) : am_X L xs (d + 1) mi pc lv (.ref 108 :: .int x3 :: .int x2 :: .int x1 :: .ref 0 :: r) am_C0 h o g Q T :=
  xo_36 [some (.ref 0), some (.int x1), some (.int x2), some (.int x3), some (.ref 108), none] r hp ⟨Nat.le_add_left 5 _, Nat.le_of_ble_eq_true hs, Nat.le_of_ble_eq_true rfl, rfl⟩ rfl rfl hh H
theorem cl_111_0_108 {x1 : Int32} {x2 : Int32} {x3 : Int32} (hp : am_P mi pc = some (36, 111, 5, c, v)) (hh : am_hd mi = []) (hs : Nat.ble ((r.map fun w => w.category).sum) 8 = true) (H : am_X L xs d 111 0 [some (.ref 0), some (.int x1), some (.int x2), some (.int x3), some (.ref 108), none] [] am_C0 h o g (fun w h' o' g' => am_X L xs (d + 1) mi c lv (w.toList ++ r) am_C0 h' o' g' Q T) T) : am_X L xs (d + 1) mi pc lv (.ref 108 :: .int x3 :: .int x2 :: .int x1 :: .ref 0 :: r) am_C0 h o g Q T :=
  xo_36 [some (.ref 0), some (.int x1), some (.int x2), some (.int x3), some (.ref 108), none] r hp ⟨Nat.le_add_left 5 _, Nat.le_of_ble_eq_true hs, Nat.le_of_ble_eq_true rfl, rfl⟩ rfl rfl hh H
theorem cl_113_0_108 {x1 : Int32} {x2 : Int32} {x3 : Int32} {x4 : Int32} {x5 : Int32} {x6 : Int32} (hp : am_P mi pc = some (36, 113, 8, c, v)) (hh : am_hd mi = []) (hs : Nat.ble ((r.map fun w => w.category).sum) 8 = true) (H : am_X L xs d 113 0 [some (.ref 0), some (.int x1), some (.int x2), some (.int x3), some (.int x4), some (.int x5), some (.int x6), some (.ref 108), none] [] am_C0 h o g (fun w h' o' g' => am_X L xs (d + 1) mi c lv (w.toList ++ r) am_C0 h' o' g' Q T) T) : am_X L xs (d + 1) mi pc lv (.ref 108 :: .int x6 :: .int x5 :: .int x4 :: .int x3 :: .int x2 :: .int x1 :: .ref 0 :: r) am_C0 h o g Q T :=
  xo_36 [some (.ref 0), some (.int x1), some (.int x2), some (.int x3), some (.int x4), some (.int x5), some (.int x6), some (.ref 108), none] r hp ⟨Nat.le_add_left 8 _, Nat.le_of_ble_eq_true hs, Nat.le_of_ble_eq_true rfl, rfl⟩ rfl rfl hh H
theorem cl_118_0_108 {x1 : Int32} {x2 : Int32} {x3 : Int32} (hp : am_P mi pc = some (36, 118, 5, c, v)) (hh : am_hd mi = []) (hs : Nat.ble ((r.map fun w => w.category).sum) 8 = true) (H : am_X L xs d 118 0 [some (.ref 0), some (.int x1), some (.int x2), some (.int x3), some (.ref 108), none] [] am_C0 h o g (fun w h' o' g' => am_X L xs (d + 1) mi c lv (w.toList ++ r) am_C0 h' o' g' Q T) T) : am_X L xs (d + 1) mi pc lv (.ref 108 :: .int x3 :: .int x2 :: .int x1 :: .ref 0 :: r) am_C0 h o g Q T :=
  xo_36 [some (.ref 0), some (.int x1), some (.int x2), some (.int x3), some (.ref 108), none] r hp ⟨Nat.le_add_left 5 _, Nat.le_of_ble_eq_true hs, Nat.le_of_ble_eq_true rfl, rfl⟩ rfl rfl hh H
theorem cl_121_0_108 {x1 : Int32} (hp : am_P mi pc = some (36, 121, 3, c, v)) (hh : am_hd mi = []) (hs : Nat.ble ((r.map fun w => w.category).sum) 8 = true) (H : am_X L xs d 121 0 [some (.ref 0), some (.int x1), some (.ref 108), none] [] am_C0 h o g (fun w h' o' g' => am_X L xs (d + 1) mi c lv (w.toList ++ r) am_C0 h' o' g' Q T) T) : am_X L xs (d + 1) mi pc lv (.ref 108 :: .int x1 :: .ref 0 :: r) am_C0 h o g Q T :=
  xo_36 [some (.ref 0), some (.int x1), some (.ref 108), none] r hp ⟨Nat.le_add_left 3 _, Nat.le_of_ble_eq_true hs, Nat.le_of_ble_eq_true rfl, rfl⟩ rfl rfl hh H
theorem cl_20_0 (hp : am_P mi pc = some (36, 20, 1, c, v)) (hh : am_hd mi = []) (hs : Nat.ble ((r.map fun w => w.category).sum) 8 = true) (H : am_X L xs d 20 0 [some (.ref 0)] [] am_C0 h o g (fun w h' o' g' => am_X L xs (d + 1) mi c lv (w.toList ++ r) am_C0 h' o' g' Q T) T) : am_X L xs (d + 1) mi pc lv (.ref 0 :: r) am_C0 h o g Q T :=
  xo_36 [some (.ref 0)] r hp ⟨Nat.le_add_left 1 _, Nat.le_of_ble_eq_true hs, Nat.le_of_ble_eq_true rfl, (rv_0 _)⟩ rfl rfl hh H
theorem cl_22_0 (hp : am_P mi pc = some (36, 22, 1, c, v)) (hh : am_hd mi = []) (hs : Nat.ble ((r.map fun w => w.category).sum) 8 = true) (H : am_X L xs d 22 0 [some (.ref 0)] [] am_C0 h o g (fun w h' o' g' => am_X L xs (d + 1) mi c lv (w.toList ++ r) am_C0 h' o' g' Q T) T) : am_X L xs (d + 1) mi pc lv (.ref 0 :: r) am_C0 h o g Q T :=
  xo_36 [some (.ref 0)] r hp ⟨Nat.le_add_left 1 _, Nat.le_of_ble_eq_true hs, Nat.le_of_ble_eq_true rfl, (rv_0 _)⟩ rfl rfl hh H
theorem rv_64 (as : List Value) : am_recv 7 (.ref 64 :: as) am_C0 = true := rfl
theorem cl_131_64 {x1 : Int32} {x2 : Int32} {x3 : Int32} {x4 : Int32} {x5 : Int32} (hp : am_P mi pc = some (36, 131, 6, c, v)) (hh : am_hd mi = []) (hs : Nat.ble ((r.map fun w => w.category).sum) 8 = true) (H : am_X L xs d 131 0 [some (.ref 64), some (.int x1), some (.int x2), some (.int x3), some (.int x4), some (.int x5), none, none] [] am_C0 h o g (fun w h' o' g' => am_X L xs (d + 1) mi c lv (w.toList ++ r) am_C0 h' o' g' Q T) T) : am_X L xs (d + 1) mi pc lv (.int x5 :: .int x4 :: .int x3 :: .int x2 :: .int x1 :: .ref 64 :: r) am_C0 h o g Q T :=
  xo_36 [some (.ref 64), some (.int x1), some (.int x2), some (.int x3), some (.int x4), some (.int x5), none, none] r hp ⟨Nat.le_add_left 6 _, Nat.le_of_ble_eq_true hs, Nat.le_of_ble_eq_true rfl, (rv_64 _)⟩ rfl rfl hh H
theorem cl_132_64 {x1 : Int32} (hp : am_P mi pc = some (36, 132, 2, c, v)) (hh : am_hd mi = []) (hs : Nat.ble ((r.map fun w => w.category).sum) 8 = true) (H : am_X L xs d 132 0 [some (.ref 64), some (.int x1), none] [] am_C0 h o g (fun w h' o' g' => am_X L xs (d + 1) mi c lv (w.toList ++ r) am_C0 h' o' g' Q T) T) : am_X L xs (d + 1) mi pc lv (.int x1 :: .ref 64 :: r) am_C0 h o g Q T :=
  xo_36 [some (.ref 64), some (.int x1), none] r hp ⟨Nat.le_add_left 2 _, Nat.le_of_ble_eq_true hs, Nat.le_of_ble_eq_true rfl, (rv_64 _)⟩ rfl rfl hh H
theorem cl_148_64 (hp : am_P mi pc = some (36, 148, 1, c, v)) (hh : am_hd mi = []) (hs : Nat.ble ((r.map fun w => w.category).sum) 8 = true) (H : am_X L xs d 148 0 [some (.ref 64)] [] am_C0 h o g (fun w h' o' g' => am_X L xs (d + 1) mi c lv (w.toList ++ r) am_C0 h' o' g' Q T) T) : am_X L xs (d + 1) mi pc lv (.ref 64 :: r) am_C0 h o g Q T :=
  xo_36 [some (.ref 64)] r hp ⟨Nat.le_add_left 1 _, Nat.le_of_ble_eq_true hs, Nat.le_of_ble_eq_true rfl, (rv_64 _)⟩ rfl rfl hh H
theorem cl_149_64 {x1 : Int32} (hp : am_P mi pc = some (36, 149, 2, c, v)) (hh : am_hd mi = []) (hs : Nat.ble ((r.map fun w => w.category).sum) 8 = true) (H : am_X L xs d 149 0 [some (.ref 64), some (.int x1)] [] am_C0 h o g (fun w h' o' g' => am_X L xs (d + 1) mi c lv (w.toList ++ r) am_C0 h' o' g' Q T) T) : am_X L xs (d + 1) mi pc lv (.int x1 :: .ref 64 :: r) am_C0 h o g Q T :=
  xo_36 [some (.ref 64), some (.int x1)] r hp ⟨Nat.le_add_left 2 _, Nat.le_of_ble_eq_true hs, Nat.le_of_ble_eq_true rfl, (rv_64 _)⟩ rfl rfl hh H
theorem cl_151_64 {x1 : Int32} {x2 : Int32} (hp : am_P mi pc = some (36, 151, 3, c, v)) (hh : am_hd mi = []) (hs : Nat.ble ((r.map fun w => w.category).sum) 8 = true) (H : am_X L xs d 151 0 [some (.ref 64), some (.int x1), some (.int x2)] [] am_C0 h o g (fun w h' o' g' => am_X L xs (d + 1) mi c lv (w.toList ++ r) am_C0 h' o' g' Q T) T) : am_X L xs (d + 1) mi pc lv (.int x2 :: .int x1 :: .ref 64 :: r) am_C0 h o g Q T :=
  xo_36 [some (.ref 64), some (.int x1), some (.int x2)] r hp ⟨Nat.le_add_left 3 _, Nat.le_of_ble_eq_true hs, Nat.le_of_ble_eq_true rfl, (rv_64 _)⟩ rfl rfl hh H
theorem cl_156_64 {x1 : Int32} {x2 : Int32} (hp : am_P mi pc = some (36, 156, 3, c, v)) (hh : am_hd mi = []) (hs : Nat.ble ((r.map fun w => w.category).sum) 8 = true) (H : am_X L xs d 156 0 [some (.ref 64), some (.int x1), some (.int x2), none, none] [] am_C0 h o g (fun w h' o' g' => am_X L xs (d + 1) mi c lv (w.toList ++ r) am_C0 h' o' g' Q T) T) : am_X L xs (d + 1) mi pc lv (.int x2 :: .int x1 :: .ref 64 :: r) am_C0 h o g Q T :=
  xo_36 [some (.ref 64), some (.int x1), some (.int x2), none, none] r hp ⟨Nat.le_add_left 3 _, Nat.le_of_ble_eq_true hs, Nat.le_of_ble_eq_true rfl, (rv_64 _)⟩ rfl rfl hh H
theorem cl_159_64 {x1 : Int32} {x2 : Int32} {x3 : Int32} (hp : am_P mi pc = some (36, 159, 4, c, v)) (hh : am_hd mi = []) (hs : Nat.ble ((r.map fun w => w.category).sum) 8 = true) (H : am_X L xs d 159 0 [some (.ref 64), some (.int x1), some (.int x2), some (.int x3)] [] am_C0 h o g (fun w h' o' g' => am_X L xs (d + 1) mi c lv (w.toList ++ r) am_C0 h' o' g' Q T) T) : am_X L xs (d + 1) mi pc lv (.int x3 :: .int x2 :: .int x1 :: .ref 64 :: r) am_C0 h o g Q T :=
  xo_36 [some (.ref 64), some (.int x1), some (.int x2), some (.int x3)] r hp ⟨Nat.le_add_left 4 _, Nat.le_of_ble_eq_true hs, Nat.le_of_ble_eq_true rfl, (rv_64 _)⟩ rfl rfl hh H
theorem cl_164_64 {x1 : Int32} {x2 : Int32} (hp : am_P mi pc = some (36, 164, 3, c, v)) (hh : am_hd mi = []) (hs : Nat.ble ((r.map fun w => w.category).sum) 8 = true) (H : am_X L xs d 164 0 [some (.ref 64), some (.int x1), some (.int x2), none] [] am_C0 h o g (fun w h' o' g' => am_X L xs (d + 1) mi c lv (w.toList ++ r) am_C0 h' o' g' Q T) T) : am_X L xs (d + 1) mi pc lv (.int x2 :: .int x1 :: .ref 64 :: r) am_C0 h o g Q T :=
  xo_36 [some (.ref 64), some (.int x1), some (.int x2), none] r hp ⟨Nat.le_add_left 3 _, Nat.le_of_ble_eq_true hs, Nat.le_of_ble_eq_true rfl, (rv_64 _)⟩ rfl rfl hh H
theorem cl_165_64 {x1 : Int32} {x2 : Int32} {x3 : Int32} {x4 : Int32} (hp : am_P mi pc = some (36, 165, 5, c, v)) (hh : am_hd mi = []) (hs : Nat.ble ((r.map fun w => w.category).sum) 8 = true) (H : am_X L xs d 165 0 [some (.ref 64), some (.int x1), some (.int x2), some (.int x3), some (.int x4)] [] am_C0 h o g (fun w h' o' g' => am_X L xs (d + 1) mi c lv (w.toList ++ r) am_C0 h' o' g' Q T) T) : am_X L xs (d + 1) mi pc lv (.int x4 :: .int x3 :: .int x2 :: .int x1 :: .ref 64 :: r) am_C0 h o g Q T :=
  xo_36 [some (.ref 64), some (.int x1), some (.int x2), some (.int x3), some (.int x4)] r hp ⟨Nat.le_add_left 5 _, Nat.le_of_ble_eq_true hs, Nat.le_of_ble_eq_true rfl, (rv_64 _)⟩ rfl rfl hh H
theorem cl_169_64 {x1 : Int32} {x2 : Int32} {x3 : Int32} {x4 : Int32} {x5 : Int32} {x6 : Int32} (hp : am_P mi pc = some (36, 169, 7, c, v)) (hh : am_hd mi = []) (hs : Nat.ble ((r.map fun w => w.category).sum) 8 = true) (H : am_X L xs d 169 0 [some (.ref 64), some (.int x1), some (.int x2), some (.int x3), some (.int x4), some (.int x5), some (.int x6)] [] am_C0 h o g (fun w h' o' g' => am_X L xs (d + 1) mi c lv (w.toList ++ r) am_C0 h' o' g' Q T) T) : am_X L xs (d + 1) mi pc lv (.int x6 :: .int x5 :: .int x4 :: .int x3 :: .int x2 :: .int x1 :: .ref 64 :: r) am_C0 h o g Q T :=
  xo_36 [some (.ref 64), some (.int x1), some (.int x2), some (.int x3), some (.int x4), some (.int x5), some (.int x6)] r hp ⟨Nat.le_add_left 7 _, Nat.le_of_ble_eq_true hs, Nat.le_of_ble_eq_true rfl, (rv_64 _)⟩ rfl rfl hh H
theorem cl_170_64 (hp : am_P mi pc = some (36, 170, 1, c, v)) (hh : am_hd mi = []) (hs : Nat.ble ((r.map fun w => w.category).sum) 8 = true) (H : am_X L xs d 170 0 [some (.ref 64)] [] am_C0 h o g (fun w h' o' g' => am_X L xs (d + 1) mi c lv (w.toList ++ r) am_C0 h' o' g' Q T) T) : am_X L xs (d + 1) mi pc lv (.ref 64 :: r) am_C0 h o g Q T :=
  xo_36 [some (.ref 64)] r hp ⟨Nat.le_add_left 1 _, Nat.le_of_ble_eq_true hs, Nat.le_of_ble_eq_true rfl, (rv_64 _)⟩ rfl rfl hh H
theorem cl_171_64 {x1 : Int32} {x2 : Int32} {x3 : Int32} {x4 : Int32} (hp : am_P mi pc = some (36, 171, 5, c, v)) (hh : am_hd mi = []) (hs : Nat.ble ((r.map fun w => w.category).sum) 8 = true) (H : am_X L xs d 171 0 [some (.ref 64), some (.int x1), some (.int x2), some (.int x3), some (.int x4), none] [] am_C0 h o g (fun w h' o' g' => am_X L xs (d + 1) mi c lv (w.toList ++ r) am_C0 h' o' g' Q T) T) : am_X L xs (d + 1) mi pc lv (.int x4 :: .int x3 :: .int x2 :: .int x1 :: .ref 64 :: r) am_C0 h o g Q T :=
  xo_36 [some (.ref 64), some (.int x1), some (.int x2), some (.int x3), some (.int x4), none] r hp ⟨Nat.le_add_left 5 _, Nat.le_of_ble_eq_true hs, Nat.le_of_ble_eq_true rfl, (rv_64 _)⟩ rfl rfl hh H
theorem cl_173_64 (hp : am_P mi pc = some (36, 173, 1, c, v)) (hh : am_hd mi = []) (hs : Nat.ble ((r.map fun w => w.category).sum) 8 = true) (H : am_X L xs d 173 0 [some (.ref 64), none, none] [] am_C0 h o g (fun w h' o' g' => am_X L xs (d + 1) mi c lv (w.toList ++ r) am_C0 h' o' g' Q T) T) : am_X L xs (d + 1) mi pc lv (.ref 64 :: r) am_C0 h o g Q T :=
  xo_36 [some (.ref 64), none, none] r hp ⟨Nat.le_add_left 1 _, Nat.le_of_ble_eq_true hs, Nat.le_of_ble_eq_true rfl, (rv_64 _)⟩ rfl rfl hh H
theorem cl_176_64 {x1 : Int32} {x2 : Int32} {x3 : Int32} {x4 : Int32} {x5 : Int32} {x6 : Int32} (hp : am_P mi pc = some (36, 176, 7, c, v)) (hh : am_hd mi = []) (hs : Nat.ble ((r.map fun w => w.category).sum) 8 = true) (H : am_X L xs d 176 0 [some (.ref 64), some (.int x1), some (.int x2), some (.int x3), some (.int x4), some (.int x5), some (.int x6)] [] am_C0 h o g (fun w h' o' g' => am_X L xs (d + 1) mi c lv (w.toList ++ r) am_C0 h' o' g' Q T) T) : am_X L xs (d + 1) mi pc lv (.int x6 :: .int x5 :: .int x4 :: .int x3 :: .int x2 :: .int x1 :: .ref 64 :: r) am_C0 h o g Q T :=
  xo_36 [some (.ref 64), some (.int x1), some (.int x2), some (.int x3), some (.int x4), some (.int x5), some (.int x6)] r hp ⟨Nat.le_add_left 7 _, Nat.le_of_ble_eq_true hs, Nat.le_of_ble_eq_true rfl, (rv_64 _)⟩ rfl rfl hh H
theorem cl_180_64 {x1 : Int32} {x2 : Int32} (hp : am_P mi pc = some (36, 180, 3, c, v)) (hh : am_hd mi = []) (hs : Nat.ble ((r.map fun w => w.category).sum) 8 = true) (H : am_X L xs d 180 0 [some (.ref 64), some (.int x1), some (.int x2), none, none] [] am_C0 h o g (fun w h' o' g' => am_X L xs (d + 1) mi c lv (w.toList ++ r) am_C0 h' o' g' Q T) T) : am_X L xs (d + 1) mi pc lv (.int x2 :: .int x1 :: .ref 64 :: r) am_C0 h o g Q T :=
  xo_36 [some (.ref 64), some (.int x1), some (.int x2), none, none] r hp ⟨Nat.le_add_left 3 _, Nat.le_of_ble_eq_true hs, Nat.le_of_ble_eq_true rfl, (rv_64 _)⟩ rfl rfl hh H
theorem cl_189_64 {x1 : Int32} {x2 : Int32} (hp : am_P mi pc = some (36, 189, 3, c, v)) (hh : am_hd mi = []) (hs : Nat.ble ((r.map fun w => w.category).sum) 8 = true) (H : am_X L xs d 189 0 [some (.ref 64), some (.int x1), some (.int x2)] [] am_C0 h o g (fun w h' o' g' => am_X L xs (d + 1) mi c lv (w.toList ++ r) am_C0 h' o' g' Q T) T) : am_X L xs (d + 1) mi pc lv (.int x2 :: .int x1 :: .ref 64 :: r) am_C0 h o g Q T :=
  xo_36 [some (.ref 64), some (.int x1), some (.int x2)] r hp ⟨Nat.le_add_left 3 _, Nat.le_of_ble_eq_true hs, Nat.le_of_ble_eq_true rfl, (rv_64 _)⟩ rfl rfl hh H
theorem cl_190_64 {x1 : Int32} {x2 : Int32} {x3 : Int32} {x4 : Int32} (hp : am_P mi pc = some (36, 190, 5, c, v)) (hh : am_hd mi = []) (hs : Nat.ble ((r.map fun w => w.category).sum) 8 = true) (H : am_X L xs d 190 0 [some (.ref 64), some (.int x1), some (.int x2), some (.int x3), some (.int x4), none, none, none] [] am_C0 h o g (fun w h' o' g' => am_X L xs (d + 1) mi c lv (w.toList ++ r) am_C0 h' o' g' Q T) T) : am_X L xs (d + 1) mi pc lv (.int x4 :: .int x3 :: .int x2 :: .int x1 :: .ref 64 :: r) am_C0 h o g Q T :=
  xo_36 [some (.ref 64), some (.int x1), some (.int x2), some (.int x3), some (.int x4), none, none, none] r hp ⟨Nat.le_add_left 5 _, Nat.le_of_ble_eq_true hs, Nat.le_of_ble_eq_true rfl, (rv_64 _)⟩ rfl rfl hh H
theorem cl_192_64 {x1 : Int32} {x2 : Int32} {x3 : Int32} (hp : am_P mi pc = some (36, 192, 4, c, v)) (hh : am_hd mi = []) (hs : Nat.ble ((r.map fun w => w.category).sum) 8 = true) (H : am_X L xs d 192 0 [some (.ref 64), some (.int x1), some (.int x2), some (.int x3)] [] am_C0 h o g (fun w h' o' g' => am_X L xs (d + 1) mi c lv (w.toList ++ r) am_C0 h' o' g' Q T) T) : am_X L xs (d + 1) mi pc lv (.int x3 :: .int x2 :: .int x1 :: .ref 64 :: r) am_C0 h o g Q T :=
  xo_36 [some (.ref 64), some (.int x1), some (.int x2), some (.int x3)] r hp ⟨Nat.le_add_left 4 _, Nat.le_of_ble_eq_true hs, Nat.le_of_ble_eq_true rfl, (rv_64 _)⟩ rfl rfl hh H
theorem cl_194_64 {x1 : Int32} {x2 : Int32} (hp : am_P mi pc = some (36, 194, 3, c, v)) (hh : am_hd mi = []) (hs : Nat.ble ((r.map fun w => w.category).sum) 8 = true) (H : am_X L xs d 194 0 [some (.ref 64), some (.int x1), some (.int x2), none, none, none, none, none, none] [] am_C0 h o g (fun w h' o' g' => am_X L xs (d + 1) mi c lv (w.toList ++ r) am_C0 h' o' g' Q T) T) : am_X L xs (d + 1) mi pc lv (.int x2 :: .int x1 :: .ref 64 :: r) am_C0 h o g Q T :=
  xo_36 [some (.ref 64), some (.int x1), some (.int x2), none, none, none, none, none, none] r hp ⟨Nat.le_add_left 3 _, Nat.le_of_ble_eq_true hs, Nat.le_of_ble_eq_true rfl, (rv_64 _)⟩ rfl rfl hh H
theorem cl_195_64 {x1 : Int32} {x2 : Int32} {x3 : Int32} (hp : am_P mi pc = some (36, 195, 4, c, v)) (hh : am_hd mi = []) (hs : Nat.ble ((r.map fun w => w.category).sum) 8 = true) (H : am_X L xs d 195 0 [some (.ref 64), some (.int x1), some (.int x2), some (.int x3), none] [] am_C0 h o g (fun w h' o' g' => am_X L xs (d + 1) mi c lv (w.toList ++ r) am_C0 h' o' g' Q T) T) : am_X L xs (d + 1) mi pc lv (.int x3 :: .int x2 :: .int x1 :: .ref 64 :: r) am_C0 h o g Q T :=
  xo_36 [some (.ref 64), some (.int x1), some (.int x2), some (.int x3), none] r hp ⟨Nat.le_add_left 4 _, Nat.le_of_ble_eq_true hs, Nat.le_of_ble_eq_true rfl, (rv_64 _)⟩ rfl rfl hh H
theorem cl_196_64 {x1 : Int32} {x2 : Int32} {x3 : Int32} (hp : am_P mi pc = some (36, 196, 4, c, v)) (hh : am_hd mi = []) (hs : Nat.ble ((r.map fun w => w.category).sum) 8 = true) (H : am_X L xs d 196 0 [some (.ref 64), some (.int x1), some (.int x2), some (.int x3), none] [] am_C0 h o g (fun w h' o' g' => am_X L xs (d + 1) mi c lv (w.toList ++ r) am_C0 h' o' g' Q T) T) : am_X L xs (d + 1) mi pc lv (.int x3 :: .int x2 :: .int x1 :: .ref 64 :: r) am_C0 h o g Q T :=
  xo_36 [some (.ref 64), some (.int x1), some (.int x2), some (.int x3), none] r hp ⟨Nat.le_add_left 4 _, Nat.le_of_ble_eq_true hs, Nat.le_of_ble_eq_true rfl, (rv_64 _)⟩ rfl rfl hh H
theorem cl_197_64 {x1 : Int32} {x2 : Int32} {x3 : Int32} {x4 : Int32} {x5 : Int32} {x6 : Int32} (hp : am_P mi pc = some (36, 197, 7, c, v)) (hh : am_hd mi = []) (hs : Nat.ble ((r.map fun w => w.category).sum) 8 = true) (H : am_X L xs d 197 0 [some (.ref 64), some (.int x1), some (.int x2), some (.int x3), some (.int x4), some (.int x5), some (.int x6), none, none] [] am_C0 h o g (fun w h' o' g' => am_X L xs (d + 1) mi c lv (w.toList ++ r) am_C0 h' o' g' Q T) T) : am_X L xs (d + 1) mi pc lv (.int x6 :: .int x5 :: .int x4 :: .int x3 :: .int x2 :: .int x1 :: .ref 64 :: r) am_C0 h o g Q T :=
  xo_36 [some (.ref 64), some (.int x1), some (.int x2), some (.int x3), some (.int x4), some (.int x5), some (.int x6), none, none] r hp ⟨Nat.le_add_left 7 _, Nat.le_of_ble_eq_true hs, Nat.le_of_ble_eq_true rfl, (rv_64 _)⟩ rfl rfl hh H
theorem cl_199_64 {x1 : Int32} {x2 : Int32} {x3 : Int32} (hp : am_P mi pc = some (36, 199, 4, c, v)) (hh : am_hd mi = []) (hs : Nat.ble ((r.map fun w => w.category).sum) 8 = true) (H : am_X L xs d 199 0 [some (.ref 64), some (.int x1), some (.int x2), some (.int x3)] [] am_C0 h o g (fun w h' o' g' => am_X L xs (d + 1) mi c lv (w.toList ++ r) am_C0 h' o' g' Q T) T) : am_X L xs (d + 1) mi pc lv (.int x3 :: .int x2 :: .int x1 :: .ref 64 :: r) am_C0 h o g Q T :=
  xo_36 [some (.ref 64), some (.int x1), some (.int x2), some (.int x3)] r hp ⟨Nat.le_add_left 4 _, Nat.le_of_ble_eq_true hs, Nat.le_of_ble_eq_true rfl, (rv_64 _)⟩ rfl rfl hh H
theorem cl_200_64 {x1 : Int32} (hp : am_P mi pc = some (36, 200, 2, c, v)) (hh : am_hd mi = []) (hs : Nat.ble ((r.map fun w => w.category).sum) 8 = true) (H : am_X L xs d 200 0 [some (.ref 64), some (.int x1), none] [] am_C0 h o g (fun w h' o' g' => am_X L xs (d + 1) mi c lv (w.toList ++ r) am_C0 h' o' g' Q T) T) : am_X L xs (d + 1) mi pc lv (.int x1 :: .ref 64 :: r) am_C0 h o g Q T :=
  xo_36 [some (.ref 64), some (.int x1), none] r hp ⟨Nat.le_add_left 2 _, Nat.le_of_ble_eq_true hs, Nat.le_of_ble_eq_true rfl, (rv_64 _)⟩ rfl rfl hh H
theorem cl_202_64 (hp : am_P mi pc = some (36, 202, 1, c, v)) (hh : am_hd mi = []) (hs : Nat.ble ((r.map fun w => w.category).sum) 8 = true) (H : am_X L xs d 202 0 [some (.ref 64), none] [] am_C0 h o g (fun w h' o' g' => am_X L xs (d + 1) mi c lv (w.toList ++ r) am_C0 h' o' g' Q T) T) : am_X L xs (d + 1) mi pc lv (.ref 64 :: r) am_C0 h o g Q T :=
  xo_36 [some (.ref 64), none] r hp ⟨Nat.le_add_left 1 _, Nat.le_of_ble_eq_true hs, Nat.le_of_ble_eq_true rfl, (rv_64 _)⟩ rfl rfl hh H
theorem cl_204_64 (hp : am_P mi pc = some (36, 204, 1, c, v)) (hh : am_hd mi = []) (hs : Nat.ble ((r.map fun w => w.category).sum) 8 = true) (H : am_X L xs d 204 0 [some (.ref 64), none] [] am_C0 h o g (fun w h' o' g' => am_X L xs (d + 1) mi c lv (w.toList ++ r) am_C0 h' o' g' Q T) T) : am_X L xs (d + 1) mi pc lv (.ref 64 :: r) am_C0 h o g Q T :=
  xo_36 [some (.ref 64), none] r hp ⟨Nat.le_add_left 1 _, Nat.le_of_ble_eq_true hs, Nat.le_of_ble_eq_true rfl, (rv_64 _)⟩ rfl rfl hh H
theorem cl_130_64 (hp : am_P mi pc = some (36, 130, 1, c, v)) (hh : am_hd mi = []) (hs : Nat.ble ((r.map fun w => w.category).sum) 8 = true) (H : am_X L xs d 130 0 [some (.ref 64)] [] am_C0 h o g (fun w h' o' g' => am_X L xs (d + 1) mi c lv (w.toList ++ r) am_C0 h' o' g' Q T) T) : am_X L xs (d + 1) mi pc lv (.ref 64 :: r) am_C0 h o g Q T :=
  xo_36 [some (.ref 64)] r hp ⟨Nat.le_add_left 1 _, Nat.le_of_ble_eq_true hs, Nat.le_of_ble_eq_true rfl, (rv_64 _)⟩ rfl rfl hh H
theorem cf_64_3 : am_fI am_C0 64 7 3 := am_fI.lit rfl
theorem ca_108 : am_aI am_C0 108 3 1 := am_aI.lit rfl rfl
theorem ch_103 {x1 : Int32} {x2 : Int32} {x3 : Int32} (hp : am_P mi pc = some (36, 103, 4, c, v)) (hs : Nat.ble ((r.map fun w => w.category).sum) 8 = true) (H : am_X L xs d 103 0 [some (.ref 0), some (.int x1), some (.int x2), some (.int x3)] [] am_C0 h o g (fun w h' o' g' => am_X L xs (d + 1) mi c lv (w.toList ++ r) am_C0 h' o' g' Q T) (fun E h' o' g' => match am_hand (am_hd mi) pc E with | none => T E h' o' g' | some (pc', j) => am_X L xs (d + 1) mi pc' (am_st1 lv j none) [] am_C0 h' o' g' Q T)) : am_X L xs (d + 1) mi pc lv (.int x3 :: .int x2 :: .int x1 :: .ref 0 :: r) am_C0 h o g Q T :=
  xo_36h [some (.ref 0), some (.int x1), some (.int x2), some (.int x3)] r hp ⟨Nat.le_add_left 4 _, Nat.le_of_ble_eq_true hs, Nat.le_of_ble_eq_true rfl, rv_0 _⟩ rfl rfl H
theorem ch_108 {x1 : Int32} {x2 : Int32} (hp : am_P mi pc = some (36, 108, 3, c, v)) (hs : Nat.ble ((r.map fun w => w.category).sum) 8 = true) (H : am_X L xs d 108 0 [some (.ref 0), some (.int x1), some (.int x2), none, none, none, none, none] [] am_C0 h o g (fun w h' o' g' => am_X L xs (d + 1) mi c lv (w.toList ++ r) am_C0 h' o' g' Q T) (fun E h' o' g' => match am_hand (am_hd mi) pc E with | none => T E h' o' g' | some (pc', j) => am_X L xs (d + 1) mi pc' (am_st1 lv j none) [] am_C0 h' o' g' Q T)) : am_X L xs (d + 1) mi pc lv (.int x2 :: .int x1 :: .ref 0 :: r) am_C0 h o g Q T :=
  xo_36h [some (.ref 0), some (.int x1), some (.int x2), none, none, none, none, none] r hp ⟨Nat.le_add_left 3 _, Nat.le_of_ble_eq_true hs, Nat.le_of_ble_eq_true rfl, rv_0 _⟩ rfl rfl H
theorem ch_110 {x1 : Int32} {x2 : Int32} {x3 : Int32} (hp : am_P mi pc = some (36, 110, 4, c, v)) (hs : Nat.ble ((r.map fun w => w.category).sum) 8 = true) (H : am_X L xs d 110 0 [some (.ref 0), some (.int x1), some (.int x2), some (.int x3), none, none, none, none, none, none] [] am_C0 h o g (fun w h' o' g' => am_X L xs (d + 1) mi c lv (w.toList ++ r) am_C0 h' o' g' Q T) (fun E h' o' g' => match am_hand (am_hd mi) pc E with | none => T E h' o' g' | some (pc', j) => am_X L xs (d + 1) mi pc' (am_st1 lv j none) [] am_C0 h' o' g' Q T)) : am_X L xs (d + 1) mi pc lv (.int x3 :: .int x2 :: .int x1 :: .ref 0 :: r) am_C0 h o g Q T :=
  xo_36h [some (.ref 0), some (.int x1), some (.int x2), some (.int x3), none, none, none, none, none, none] r hp ⟨Nat.le_add_left 4 _, Nat.le_of_ble_eq_true hs, Nat.le_of_ble_eq_true rfl, rv_0 _⟩ rfl rfl H
theorem cr_0_0 : am_fR am_C0 0 6 0 1 := am_fR.lit rfl
theorem cf_1_1 : am_fI am_C0 1 4 1 := am_fI.lit rfl
theorem ch_112 {x1 : Int32} {x2 : Int32} {x3 : Int32} (hp : am_P mi pc = some (36, 112, 4, c, v)) (hs : Nat.ble ((r.map fun w => w.category).sum) 8 = true) (H : am_X L xs d 112 0 [some (.ref 0), some (.int x1), some (.int x2), some (.int x3), none, none] [] am_C0 h o g (fun w h' o' g' => am_X L xs (d + 1) mi c lv (w.toList ++ r) am_C0 h' o' g' Q T) (fun E h' o' g' => match am_hand (am_hd mi) pc E with | none => T E h' o' g' | some (pc', j) => am_X L xs (d + 1) mi pc' (am_st1 lv j none) [] am_C0 h' o' g' Q T)) : am_X L xs (d + 1) mi pc lv (.int x3 :: .int x2 :: .int x1 :: .ref 0 :: r) am_C0 h o g Q T :=
  xo_36h [some (.ref 0), some (.int x1), some (.int x2), some (.int x3), none, none] r hp ⟨Nat.le_add_left 4 _, Nat.le_of_ble_eq_true hs, Nat.le_of_ble_eq_true rfl, rv_0 _⟩ rfl rfl H
theorem ch_114 {x1 : Int32} {x2 : Int32} {x3 : Int32} {x4 : Int32} {x5 : Int32} {x6 : Int32} (hp : am_P mi pc = some (36, 114, 7, c, v)) (hs : Nat.ble ((r.map fun w => w.category).sum) 8 = true) (H : am_X L xs d 114 0 [some (.ref 0), some (.int x1), some (.int x2), some (.int x3), some (.int x4), some (.int x5), some (.int x6), none, none] [] am_C0 h o g (fun w h' o' g' => am_X L xs (d + 1) mi c lv (w.toList ++ r) am_C0 h' o' g' Q T) (fun E h' o' g' => match am_hand (am_hd mi) pc E with | none => T E h' o' g' | some (pc', j) => am_X L xs (d + 1) mi pc' (am_st1 lv j none) [] am_C0 h' o' g' Q T)) : am_X L xs (d + 1) mi pc lv (.int x6 :: .int x5 :: .int x4 :: .int x3 :: .int x2 :: .int x1 :: .ref 0 :: r) am_C0 h o g Q T :=
  xo_36h [some (.ref 0), some (.int x1), some (.int x2), some (.int x3), some (.int x4), some (.int x5), some (.int x6), none, none] r hp ⟨Nat.le_add_left 7 _, Nat.le_of_ble_eq_true hs, Nat.le_of_ble_eq_true rfl, rv_0 _⟩ rfl rfl H
theorem ch_119 {x1 : Int32} {x2 : Int32} {x3 : Int32} (hp : am_P mi pc = some (36, 119, 4, c, v)) (hs : Nat.ble ((r.map fun w => w.category).sum) 8 = true) (H : am_X L xs d 119 0 [some (.ref 0), some (.int x1), some (.int x2), some (.int x3)] [] am_C0 h o g (fun w h' o' g' => am_X L xs (d + 1) mi c lv (w.toList ++ r) am_C0 h' o' g' Q T) (fun E h' o' g' => match am_hand (am_hd mi) pc E with | none => T E h' o' g' | some (pc', j) => am_X L xs (d + 1) mi pc' (am_st1 lv j none) [] am_C0 h' o' g' Q T)) : am_X L xs (d + 1) mi pc lv (.int x3 :: .int x2 :: .int x1 :: .ref 0 :: r) am_C0 h o g Q T :=
  xo_36h [some (.ref 0), some (.int x1), some (.int x2), some (.int x3)] r hp ⟨Nat.le_add_left 4 _, Nat.le_of_ble_eq_true hs, Nat.le_of_ble_eq_true rfl, rv_0 _⟩ rfl rfl H
theorem cr_0_3 : am_fR am_C0 0 6 3 23 := am_fR.lit rfl
theorem cf_23_0 : am_fI am_C0 23 0 0 := am_fI.lit rfl
theorem ch_122 {x1 : Int32} (hp : am_P mi pc = some (36, 122, 2, c, v)) (hs : Nat.ble ((r.map fun w => w.category).sum) 8 = true) (H : am_X L xs d 122 0 [some (.ref 0), some (.int x1), none, none] [] am_C0 h o g (fun w h' o' g' => am_X L xs (d + 1) mi c lv (w.toList ++ r) am_C0 h' o' g' Q T) (fun E h' o' g' => match am_hand (am_hd mi) pc E with | none => T E h' o' g' | some (pc', j) => am_X L xs (d + 1) mi pc' (am_st1 lv j none) [] am_C0 h' o' g' Q T)) : am_X L xs (d + 1) mi pc lv (.int x1 :: .ref 0 :: r) am_C0 h o g Q T :=
  xo_36h [some (.ref 0), some (.int x1), none, none] r hp ⟨Nat.le_add_left 2 _, Nat.le_of_ble_eq_true hs, Nat.le_of_ble_eq_true rfl, rv_0 _⟩ rfl rfl H
theorem cr_0_1 : am_fR am_C0 0 6 1 3 := am_fR.lit rfl
theorem cf_3_1 : am_fI am_C0 3 3 1 := am_fI.lit rfl
theorem cl_14 {x0 : Int32} (hp : am_P mi pc = some (36, 14, 1, c, v)) (hh : am_hd mi = []) (hs : Nat.ble ((r.map fun w => w.category).sum) 8 = true) (H : am_X L xs d 14 0 [some (.int x0)] [] am_C0 h o g (fun w h' o' g' => am_X L xs (d + 1) mi c lv (w.toList ++ r) am_C0 h' o' g' Q T) T) : am_X L xs (d + 1) mi pc lv (.int x0 :: r) am_C0 h o g Q T :=
  xo_36 [some (.int x0)] r hp ⟨Nat.le_add_left 1 _, Nat.le_of_ble_eq_true hs, Nat.le_of_ble_eq_true rfl, rfl⟩ rfl rfl hh H
theorem hd_13 : am_hd 13 = [] := rfl
theorem cl_15_0 {x1 : Int32} (hp : am_P mi pc = some (36, 15, 2, c, v)) (hh : am_hd mi = []) (hs : Nat.ble ((r.map fun w => w.category).sum) 8 = true) (H : am_X L xs d 15 0 [some (.ref 0), some (.int x1), none] [] am_C0 h o g (fun w h' o' g' => am_X L xs (d + 1) mi c lv (w.toList ++ r) am_C0 h' o' g' Q T) T) : am_X L xs (d + 1) mi pc lv (.int x1 :: .ref 0 :: r) am_C0 h o g Q T :=
  xo_36 [some (.ref 0), some (.int x1), none] r hp ⟨Nat.le_add_left 2 _, Nat.le_of_ble_eq_true hs, Nat.le_of_ble_eq_true rfl, (rv_0 _)⟩ rfl rfl hh H
theorem cf_64_18 : am_fI am_C0 64 7 18 := am_fI.lit rfl
theorem cr_64_17 : am_fR am_C0 64 7 17 81 := am_fR.lit rfl
theorem ca_81 : am_aI am_C0 81 0 500 := am_aI.lit rfl rfl
theorem cl_133_64 {x1 : Int32} (hp : am_P mi pc = some (36, 133, 2, c, v)) (hh : am_hd mi = []) (hs : Nat.ble ((r.map fun w => w.category).sum) 8 = true) (H : am_X L xs d 133 0 [some (.ref 64), some (.int x1)] [] am_C0 h o g (fun w h' o' g' => am_X L xs (d + 1) mi c lv (w.toList ++ r) am_C0 h' o' g' Q T) T) : am_X L xs (d + 1) mi pc lv (.int x1 :: .ref 64 :: r) am_C0 h o g Q T :=
  xo_36 [some (.ref 64), some (.int x1)] r hp ⟨Nat.le_add_left 2 _, Nat.le_of_ble_eq_true hs, Nat.le_of_ble_eq_true rfl, (rv_64 _)⟩ rfl rfl hh H
theorem hd_132 : am_hd 132 = [] := rfl
theorem cf_64_20 : am_fI am_C0 64 7 20 := am_fI.lit rfl
theorem cf_64_19 : am_fI am_C0 64 7 19 := am_fI.lit rfl
theorem cf_64_25 : am_fI am_C0 64 7 25 := am_fI.lit rfl
theorem cf_64_27 : am_fI am_C0 64 7 27 := am_fI.lit rfl
theorem cr_64_4 : am_fR am_C0 64 7 4 68 := am_fR.lit rfl
theorem ca_68 : am_aI am_C0 68 0 14 := am_aI.lit rfl rfl
theorem cl_134_64 (hp : am_P mi pc = some (36, 134, 1, c, v)) (hh : am_hd mi = []) (hs : Nat.ble ((r.map fun w => w.category).sum) 8 = true) (H : am_X L xs d 134 0 [some (.ref 64), none] [] am_C0 h o g (fun w h' o' g' => am_X L xs (d + 1) mi c lv (w.toList ++ r) am_C0 h' o' g' Q T) T) : am_X L xs (d + 1) mi pc lv (.ref 64 :: r) am_C0 h o g Q T :=
  xo_36 [some (.ref 64), none] r hp ⟨Nat.le_add_left 1 _, Nat.le_of_ble_eq_true hs, Nat.le_of_ble_eq_true rfl, (rv_64 _)⟩ rfl rfl hh H
theorem cf_64_21 : am_fI am_C0 64 7 21 := am_fI.lit rfl
theorem cl_147_64 (hp : am_P mi pc = some (36, 147, 1, c, v)) (hh : am_hd mi = []) (hs : Nat.ble ((r.map fun w => w.category).sum) 8 = true) (H : am_X L xs d 147 0 [some (.ref 64), none] [] am_C0 h o g (fun w h' o' g' => am_X L xs (d + 1) mi c lv (w.toList ++ r) am_C0 h' o' g' Q T) T) : am_X L xs (d + 1) mi pc lv (.ref 64 :: r) am_C0 h o g Q T :=
  xo_36 [some (.ref 64), none] r hp ⟨Nat.le_add_left 1 _, Nat.le_of_ble_eq_true hs, Nat.le_of_ble_eq_true rfl, (rv_64 _)⟩ rfl rfl hh H
theorem cr_64_5 : am_fR am_C0 64 7 5 69 := am_fR.lit rfl
theorem ca_69 : am_aI am_C0 69 0 10 := am_aI.lit rfl rfl
theorem cr_64_6 : am_fR am_C0 64 7 6 70 := am_fR.lit rfl
theorem ca_70 : am_aI am_C0 70 0 10 := am_aI.lit rfl rfl
theorem cr_64_7 : am_fR am_C0 64 7 7 71 := am_fR.lit rfl
theorem ca_71 : am_aI am_C0 71 0 10 := am_aI.lit rfl rfl
theorem cr_64_8 : am_fR am_C0 64 7 8 72 := am_fR.lit rfl
theorem ca_72 : am_aI am_C0 72 0 10 := am_aI.lit rfl rfl
theorem cr_64_9 : am_fR am_C0 64 7 9 73 := am_fR.lit rfl
theorem ca_73 : am_aI am_C0 73 0 10 := am_aI.lit rfl rfl
theorem cr_64_13 : am_fR am_C0 64 7 13 77 := am_fR.lit rfl
theorem ca_77 : am_aI am_C0 77 0 5 := am_aI.lit rfl rfl
theorem cr_64_15 : am_fR am_C0 64 7 15 79 := am_fR.lit rfl
theorem ca_79 : am_aI am_C0 79 0 5 := am_aI.lit rfl rfl
theorem cr_64_16 : am_fR am_C0 64 7 16 80 := am_fR.lit rfl
theorem ca_80 : am_aI am_C0 80 0 5 := am_aI.lit rfl rfl
theorem cr_64_10 : am_fR am_C0 64 7 10 74 := am_fR.lit rfl
theorem ca_74 : am_aI am_C0 74 0 10 := am_aI.lit rfl rfl
theorem cr_64_11 : am_fR am_C0 64 7 11 75 := am_fR.lit rfl
theorem ca_75 : am_aI am_C0 75 0 10 := am_aI.lit rfl rfl
theorem cr_64_12 : am_fR am_C0 64 7 12 76 := am_fR.lit rfl
theorem ca_76 : am_aI am_C0 76 0 10 := am_aI.lit rfl rfl
theorem cf_64_28 : am_fI am_C0 64 7 28 := am_fI.lit rfl
theorem cf_64_45 : am_fI am_C0 64 7 45 := am_fI.lit rfl
theorem cf_64_51 : am_fI am_C0 64 7 51 := am_fI.lit rfl
theorem cl_138_64 {x1 : Int32} (hp : am_P mi pc = some (36, 138, 2, c, v)) (hh : am_hd mi = []) (hs : Nat.ble ((r.map fun w => w.category).sum) 8 = true) (H : am_X L xs d 138 0 [some (.ref 64), some (.int x1), none, none, none] [] am_C0 h o g (fun w h' o' g' => am_X L xs (d + 1) mi c lv (w.toList ++ r) am_C0 h' o' g' Q T) T) : am_X L xs (d + 1) mi pc lv (.int x1 :: .ref 64 :: r) am_C0 h o g Q T :=
  xo_36 [some (.ref 64), some (.int x1), none, none, none] r hp ⟨Nat.le_add_left 2 _, Nat.le_of_ble_eq_true hs, Nat.le_of_ble_eq_true rfl, (rv_64 _)⟩ rfl rfl hh H
theorem cf_64_26 : am_fI am_C0 64 7 26 := am_fI.lit rfl
theorem cr_64_14 : am_fR am_C0 64 7 14 78 := am_fR.lit rfl
theorem ca_78 : am_aI am_C0 78 0 3 := am_aI.lit rfl rfl
theorem cl_150 {x0 : Int32} {x1 : Int32} {x2 : Int32} (hp : am_P mi pc = some (36, 150, 3, c, v)) (hh : am_hd mi = []) (hs : Nat.ble ((r.map fun w => w.category).sum) 8 = true) (H : am_X L xs d 150 0 [some (.int x0), some (.int x1), some (.int x2)] [] am_C0 h o g (fun w h' o' g' => am_X L xs (d + 1) mi c lv (w.toList ++ r) am_C0 h' o' g' Q T) T) : am_X L xs (d + 1) mi pc lv (.int x2 :: .int x1 :: .int x0 :: r) am_C0 h o g Q T :=
  xo_36 [some (.int x0), some (.int x1), some (.int x2)] r hp ⟨Nat.le_add_left 3 _, Nat.le_of_ble_eq_true hs, Nat.le_of_ble_eq_true rfl, rfl⟩ rfl rfl hh H
theorem hd_149 : am_hd 149 = [] := rfl
theorem cl_152_64 {x1 : Int32} (hp : am_P mi pc = some (36, 152, 2, c, v)) (hh : am_hd mi = []) (hs : Nat.ble ((r.map fun w => w.category).sum) 8 = true) (H : am_X L xs d 152 0 [some (.ref 64), some (.int x1)] [] am_C0 h o g (fun w h' o' g' => am_X L xs (d + 1) mi c lv (w.toList ++ r) am_C0 h' o' g' Q T) T) : am_X L xs (d + 1) mi pc lv (.int x1 :: .ref 64 :: r) am_C0 h o g Q T :=
  xo_36 [some (.ref 64), some (.int x1)] r hp ⟨Nat.le_add_left 2 _, Nat.le_of_ble_eq_true hs, Nat.le_of_ble_eq_true rfl, (rv_64 _)⟩ rfl rfl hh H
theorem hd_151 : am_hd 151 = [] := rfl
theorem hd_152 : am_hd 152 = [] := rfl
theorem cl_153_64 {x1 : Int32} (hp : am_P mi pc = some (36, 153, 2, c, v)) (hh : am_hd mi = []) (hs : Nat.ble ((r.map fun w => w.category).sum) 8 = true) (H : am_X L xs d 153 0 [some (.ref 64), some (.int x1), none] [] am_C0 h o g (fun w h' o' g' => am_X L xs (d + 1) mi c lv (w.toList ++ r) am_C0 h' o' g' Q T) T) : am_X L xs (d + 1) mi pc lv (.int x1 :: .ref 64 :: r) am_C0 h o g Q T :=
  xo_36 [some (.ref 64), some (.int x1), none] r hp ⟨Nat.le_add_left 2 _, Nat.le_of_ble_eq_true hs, Nat.le_of_ble_eq_true rfl, (rv_64 _)⟩ rfl rfl hh H
theorem cf_64_35 : am_fI am_C0 64 7 35 := am_fI.lit rfl
theorem cf_64_36 : am_fI am_C0 64 7 36 := am_fI.lit rfl
theorem cl_157_64 {x1 : Int32} (hp : am_P mi pc = some (36, 157, 2, c, v)) (hh : am_hd mi = []) (hs : Nat.ble ((r.map fun w => w.category).sum) 8 = true) (H : am_X L xs d 157 0 [some (.ref 64), some (.int x1)] [] am_C0 h o g (fun w h' o' g' => am_X L xs (d + 1) mi c lv (w.toList ++ r) am_C0 h' o' g' Q T) T) : am_X L xs (d + 1) mi pc lv (.int x1 :: .ref 64 :: r) am_C0 h o g Q T :=
  xo_36 [some (.ref 64), some (.int x1)] r hp ⟨Nat.le_add_left 2 _, Nat.le_of_ble_eq_true hs, Nat.le_of_ble_eq_true rfl, (rv_64 _)⟩ rfl rfl hh H
theorem hd_156 : am_hd 156 = [] := rfl
theorem hd_157 : am_hd 157 = [] := rfl
theorem cl_158_64 {x1 : Int32} {x2 : Int32} {x3 : Int32} (hp : am_P mi pc = some (36, 158, 4, c, v)) (hh : am_hd mi = []) (hs : Nat.ble ((r.map fun w => w.category).sum) 8 = true) (H : am_X L xs d 158 0 [some (.ref 64), some (.int x1), some (.int x2), some (.int x3), none] [] am_C0 h o g (fun w h' o' g' => am_X L xs (d + 1) mi c lv (w.toList ++ r) am_C0 h' o' g' Q T) T) : am_X L xs (d + 1) mi pc lv (.int x3 :: .int x2 :: .int x1 :: .ref 64 :: r) am_C0 h o g Q T :=
  xo_36 [some (.ref 64), some (.int x1), some (.int x2), some (.int x3), none] r hp ⟨Nat.le_add_left 4 _, Nat.le_of_ble_eq_true hs, Nat.le_of_ble_eq_true rfl, (rv_64 _)⟩ rfl rfl hh H
theorem cr_64_30 : am_fR am_C0 64 7 30 83 := am_fR.lit rfl
theorem ca_83 : am_aI am_C0 83 0 80 := am_aI.lit rfl rfl
theorem cr_64_29 : am_fR am_C0 64 7 29 82 := am_fR.lit rfl
theorem ca_82 : am_aI am_C0 82 0 80 := am_aI.lit rfl rfl
theorem cr_64_33 : am_fR am_C0 64 7 33 86 := am_fR.lit rfl
theorem ca_86 : am_aI am_C0 86 0 80 := am_aI.lit rfl rfl
theorem cl_160_64 {x1 : Int32} (hp : am_P mi pc = some (36, 160, 2, c, v)) (hh : am_hd mi = []) (hs : Nat.ble ((r.map fun w => w.category).sum) 8 = true) (H : am_X L xs d 160 0 [some (.ref 64), some (.int x1)] [] am_C0 h o g (fun w h' o' g' => am_X L xs (d + 1) mi c lv (w.toList ++ r) am_C0 h' o' g' Q T) T) : am_X L xs (d + 1) mi pc lv (.int x1 :: .ref 64 :: r) am_C0 h o g Q T :=
  xo_36 [some (.ref 64), some (.int x1)] r hp ⟨Nat.le_add_left 2 _, Nat.le_of_ble_eq_true hs, Nat.le_of_ble_eq_true rfl, (rv_64 _)⟩ rfl rfl hh H
theorem hd_159 : am_hd 159 = [] := rfl
theorem hd_160 : am_hd 160 = [] := rfl
theorem cl_161 {x0 : Int32} {x1 : Int32} (hp : am_P mi pc = some (36, 161, 2, c, v)) (hh : am_hd mi = []) (hs : Nat.ble ((r.map fun w => w.category).sum) 8 = true) (H : am_X L xs d 161 0 [some (.int x0), some (.int x1)] [] am_C0 h o g (fun w h' o' g' => am_X L xs (d + 1) mi c lv (w.toList ++ r) am_C0 h' o' g' Q T) T) : am_X L xs (d + 1) mi pc lv (.int x1 :: .int x0 :: r) am_C0 h o g Q T :=
  xo_36 [some (.int x0), some (.int x1)] r hp ⟨Nat.le_add_left 2 _, Nat.le_of_ble_eq_true hs, Nat.le_of_ble_eq_true rfl, rfl⟩ rfl rfl hh H
theorem hd_161 : am_hd 161 = [] := rfl
theorem cl_162_64 {x1 : Int32} {x2 : Int32} {x3 : Int32} (hp : am_P mi pc = some (36, 162, 4, c, v)) (hh : am_hd mi = []) (hs : Nat.ble ((r.map fun w => w.category).sum) 8 = true) (H : am_X L xs d 162 0 [some (.ref 64), some (.int x1), some (.int x2), some (.int x3), none] [] am_C0 h o g (fun w h' o' g' => am_X L xs (d + 1) mi c lv (w.toList ++ r) am_C0 h' o' g' Q T) T) : am_X L xs (d + 1) mi pc lv (.int x3 :: .int x2 :: .int x1 :: .ref 64 :: r) am_C0 h o g Q T :=
  xo_36 [some (.ref 64), some (.int x1), some (.int x2), some (.int x3), none] r hp ⟨Nat.le_add_left 4 _, Nat.le_of_ble_eq_true hs, Nat.le_of_ble_eq_true rfl, (rv_64 _)⟩ rfl rfl hh H
theorem cl_163_64 {x1 : Int32} (hp : am_P mi pc = some (36, 163, 2, c, v)) (hh : am_hd mi = []) (hs : Nat.ble ((r.map fun w => w.category).sum) 8 = true) (H : am_X L xs d 163 0 [some (.ref 64), some (.int x1)] [] am_C0 h o g (fun w h' o' g' => am_X L xs (d + 1) mi c lv (w.toList ++ r) am_C0 h' o' g' Q T) T) : am_X L xs (d + 1) mi pc lv (.int x1 :: .ref 64 :: r) am_C0 h o g Q T :=
  xo_36 [some (.ref 64), some (.int x1)] r hp ⟨Nat.le_add_left 2 _, Nat.le_of_ble_eq_true hs, Nat.le_of_ble_eq_true rfl, (rv_64 _)⟩ rfl rfl hh H
theorem hd_162 : am_hd 162 = [] := rfl
theorem hd_164 : am_hd 164 = [] := rfl
theorem hd_165 : am_hd 165 = [] := rfl
theorem cl_167_64 (hp : am_P mi pc = some (36, 167, 1, c, v)) (hh : am_hd mi = []) (hs : Nat.ble ((r.map fun w => w.category).sum) 8 = true) (H : am_X L xs d 167 0 [some (.ref 64)] [] am_C0 h o g (fun w h' o' g' => am_X L xs (d + 1) mi c lv (w.toList ++ r) am_C0 h' o' g' Q T) T) : am_X L xs (d + 1) mi pc lv (.ref 64 :: r) am_C0 h o g Q T :=
  xo_36 [some (.ref 64)] r hp ⟨Nat.le_add_left 1 _, Nat.le_of_ble_eq_true hs, Nat.le_of_ble_eq_true rfl, (rv_64 _)⟩ rfl rfl hh H
theorem cl_166_64 {x1 : Int32} {x2 : Int32} (hp : am_P mi pc = some (36, 166, 3, c, v)) (hh : am_hd mi = []) (hs : Nat.ble ((r.map fun w => w.category).sum) 8 = true) (H : am_X L xs d 166 0 [some (.ref 64), some (.int x1), some (.int x2), none] [] am_C0 h o g (fun w h' o' g' => am_X L xs (d + 1) mi c lv (w.toList ++ r) am_C0 h' o' g' Q T) T) : am_X L xs (d + 1) mi pc lv (.int x2 :: .int x1 :: .ref 64 :: r) am_C0 h o g Q T :=
  xo_36 [some (.ref 64), some (.int x1), some (.int x2), none] r hp ⟨Nat.le_add_left 3 _, Nat.le_of_ble_eq_true hs, Nat.le_of_ble_eq_true rfl, (rv_64 _)⟩ rfl rfl hh H
theorem cl_155_64 {x1 : Int32} {x2 : Int32} (hp : am_P mi pc = some (36, 155, 3, c, v)) (hh : am_hd mi = []) (hs : Nat.ble ((r.map fun w => w.category).sum) 8 = true) (H : am_X L xs d 155 0 [some (.ref 64), some (.int x1), some (.int x2)] [] am_C0 h o g (fun w h' o' g' => am_X L xs (d + 1) mi c lv (w.toList ++ r) am_C0 h' o' g' Q T) T) : am_X L xs (d + 1) mi pc lv (.int x2 :: .int x1 :: .ref 64 :: r) am_C0 h o g Q T :=
  xo_36 [some (.ref 64), some (.int x1), some (.int x2)] r hp ⟨Nat.le_add_left 3 _, Nat.le_of_ble_eq_true hs, Nat.le_of_ble_eq_true rfl, (rv_64 _)⟩ rfl rfl hh H
theorem cl_168_64 {x1 : Int32} {x2 : Int32} {x3 : Int32} {x4 : Int32} {x5 : Int32} {x6 : Int32} (hp : am_P mi pc = some (36, 168, 7, c, v)) (hh : am_hd mi = []) (hs : Nat.ble ((r.map fun w => w.category).sum) 8 = true) (H : am_X L xs d 168 0 [some (.ref 64), some (.int x1), some (.int x2), some (.int x3), some (.int x4), some (.int x5), some (.int x6)] [] am_C0 h o g (fun w h' o' g' => am_X L xs (d + 1) mi c lv (w.toList ++ r) am_C0 h' o' g' Q T) T) : am_X L xs (d + 1) mi pc lv (.int x6 :: .int x5 :: .int x4 :: .int x3 :: .int x2 :: .int x1 :: .ref 64 :: r) am_C0 h o g Q T :=
  xo_36 [some (.ref 64), some (.int x1), some (.int x2), some (.int x3), some (.int x4), some (.int x5), some (.int x6)] r hp ⟨Nat.le_add_left 7 _, Nat.le_of_ble_eq_true hs, Nat.le_of_ble_eq_true rfl, (rv_64 _)⟩ rfl rfl hh H
theorem cr_64_31 : am_fR am_C0 64 7 31 84 := am_fR.lit rfl
theorem ca_84 : am_aI am_C0 84 0 80 := am_aI.lit rfl rfl
theorem cr_64_32 : am_fR am_C0 64 7 32 85 := am_fR.lit rfl
theorem ca_85 : am_aI am_C0 85 0 80 := am_aI.lit rfl rfl
theorem cr_64_34 : am_fR am_C0 64 7 34 87 := am_fR.lit rfl
theorem ca_87 : am_aI am_C0 87 2 80 := am_aI.lit rfl rfl
theorem hd_169 : am_hd 169 = [] := rfl
theorem hd_171 : am_hd 171 = [] := rfl
theorem cl_172_64 {x1 : Int32} {x2 : Int32} {x3 : Int32} {x4 : Int32} (hp : am_P mi pc = some (36, 172, 5, c, v)) (hh : am_hd mi = []) (hs : Nat.ble ((r.map fun w => w.category).sum) 8 = true) (H : am_X L xs d 172 0 [some (.ref 64), some (.int x1), some (.int x2), some (.int x3), some (.int x4), none] [] am_C0 h o g (fun w h' o' g' => am_X L xs (d + 1) mi c lv (w.toList ++ r) am_C0 h' o' g' Q T) T) : am_X L xs (d + 1) mi pc lv (.int x4 :: .int x3 :: .int x2 :: .int x1 :: .ref 64 :: r) am_C0 h o g Q T :=
  xo_36 [some (.ref 64), some (.int x1), some (.int x2), some (.int x3), some (.int x4), none] r hp ⟨Nat.le_add_left 5 _, Nat.le_of_ble_eq_true hs, Nat.le_of_ble_eq_true rfl, (rv_64 _)⟩ rfl rfl hh H
theorem cl_175_64 {x1 : Int32} (hp : am_P mi pc = some (36, 175, 2, c, v)) (hh : am_hd mi = []) (hs : Nat.ble ((r.map fun w => w.category).sum) 8 = true) (H : am_X L xs d 175 0 [some (.ref 64), some (.int x1), none, none] [] am_C0 h o g (fun w h' o' g' => am_X L xs (d + 1) mi c lv (w.toList ++ r) am_C0 h' o' g' Q T) T) : am_X L xs (d + 1) mi pc lv (.int x1 :: .ref 64 :: r) am_C0 h o g Q T :=
  xo_36 [some (.ref 64), some (.int x1), none, none] r hp ⟨Nat.le_add_left 2 _, Nat.le_of_ble_eq_true hs, Nat.le_of_ble_eq_true rfl, (rv_64 _)⟩ rfl rfl hh H
theorem hd_173 : am_hd 173 = [] := rfl
theorem cl_174 {x0 : Int32} (hp : am_P mi pc = some (36, 174, 1, c, v)) (hh : am_hd mi = []) (hs : Nat.ble ((r.map fun w => w.category).sum) 8 = true) (H : am_X L xs d 174 0 [some (.int x0), none, none] [] am_C0 h o g (fun w h' o' g' => am_X L xs (d + 1) mi c lv (w.toList ++ r) am_C0 h' o' g' Q T) T) : am_X L xs (d + 1) mi pc lv (.int x0 :: r) am_C0 h o g Q T :=
  xo_36 [some (.int x0), none, none] r hp ⟨Nat.le_add_left 1 _, Nat.le_of_ble_eq_true hs, Nat.le_of_ble_eq_true rfl, rfl⟩ rfl rfl hh H
theorem hd_176 : am_hd 176 = [] := rfl
theorem cl_177_64 {x1 : Int32} {x2 : Int32} {x3 : Int32} {x4 : Int32} {x5 : Int32} (hp : am_P mi pc = some (36, 177, 6, c, v)) (hh : am_hd mi = []) (hs : Nat.ble ((r.map fun w => w.category).sum) 8 = true) (H : am_X L xs d 177 0 [some (.ref 64), some (.int x1), some (.int x2), some (.int x3), some (.int x4), some (.int x5)] [] am_C0 h o g (fun w h' o' g' => am_X L xs (d + 1) mi c lv (w.toList ++ r) am_C0 h' o' g' Q T) T) : am_X L xs (d + 1) mi pc lv (.int x5 :: .int x4 :: .int x3 :: .int x2 :: .int x1 :: .ref 64 :: r) am_C0 h o g Q T :=
  xo_36 [some (.ref 64), some (.int x1), some (.int x2), some (.int x3), some (.int x4), some (.int x5)] r hp ⟨Nat.le_add_left 6 _, Nat.le_of_ble_eq_true hs, Nat.le_of_ble_eq_true rfl, (rv_64 _)⟩ rfl rfl hh H
theorem hd_180 : am_hd 180 = [] := rfl
theorem cl_181_64 {x1 : Int32} {x2 : Int32} (hp : am_P mi pc = some (36, 181, 3, c, v)) (hh : am_hd mi = []) (hs : Nat.ble ((r.map fun w => w.category).sum) 8 = true) (H : am_X L xs d 181 0 [some (.ref 64), some (.int x1), some (.int x2), none] [] am_C0 h o g (fun w h' o' g' => am_X L xs (d + 1) mi c lv (w.toList ++ r) am_C0 h' o' g' Q T) T) : am_X L xs (d + 1) mi pc lv (.int x2 :: .int x1 :: .ref 64 :: r) am_C0 h o g Q T :=
  xo_36 [some (.ref 64), some (.int x1), some (.int x2), none] r hp ⟨Nat.le_add_left 3 _, Nat.le_of_ble_eq_true hs, Nat.le_of_ble_eq_true rfl, (rv_64 _)⟩ rfl rfl hh H
theorem cl_184_64 (hp : am_P mi pc = some (36, 184, 1, c, v)) (hh : am_hd mi = []) (hs : Nat.ble ((r.map fun w => w.category).sum) 8 = true) (H : am_X L xs d 184 0 [some (.ref 64)] [] am_C0 h o g (fun w h' o' g' => am_X L xs (d + 1) mi c lv (w.toList ++ r) am_C0 h' o' g' Q T) T) : am_X L xs (d + 1) mi pc lv (.ref 64 :: r) am_C0 h o g Q T :=
  xo_36 [some (.ref 64)] r hp ⟨Nat.le_add_left 1 _, Nat.le_of_ble_eq_true hs, Nat.le_of_ble_eq_true rfl, (rv_64 _)⟩ rfl rfl hh H
theorem cr_64_42 : am_fR am_C0 64 7 42 93 := am_fR.lit rfl
theorem cr_64_40 : am_fR am_C0 64 7 40 91 := am_fR.lit rfl
theorem ca_91 : am_aI am_C0 91 0 5 := am_aI.lit rfl rfl
theorem ca_93 : am_aI am_C0 93 0 5 := am_aI.lit rfl rfl
theorem cr_64_43 : am_fR am_C0 64 7 43 94 := am_fR.lit rfl
theorem cr_64_41 : am_fR am_C0 64 7 41 92 := am_fR.lit rfl
theorem ca_92 : am_aI am_C0 92 0 5 := am_aI.lit rfl rfl
theorem ca_94 : am_aI am_C0 94 0 5 := am_aI.lit rfl rfl
theorem hd_189 : am_hd 189 = [] := rfl
theorem hd_190 : am_hd 190 = [] := rfl
theorem cl_191 {x0 : Int32} {x1 : Int32} (hp : am_P mi pc = some (36, 191, 2, c, v)) (hh : am_hd mi = []) (hs : Nat.ble ((r.map fun w => w.category).sum) 8 = true) (H : am_X L xs d 191 0 [some (.int x0), some (.int x1), none, none, none] [] am_C0 h o g (fun w h' o' g' => am_X L xs (d + 1) mi c lv (w.toList ++ r) am_C0 h' o' g' Q T) T) : am_X L xs (d + 1) mi pc lv (.int x1 :: .int x0 :: r) am_C0 h o g Q T :=
  xo_36 [some (.int x0), some (.int x1), none, none, none] r hp ⟨Nat.le_add_left 2 _, Nat.le_of_ble_eq_true hs, Nat.le_of_ble_eq_true rfl, rfl⟩ rfl rfl hh H
theorem hd_192 : am_hd 192 = [] := rfl
theorem cl_193_64 {x1 : Int32} {x2 : Int32} {x3 : Int32} {x4 : Int32} (hp : am_P mi pc = some (36, 193, 5, c, v)) (hh : am_hd mi = []) (hs : Nat.ble ((r.map fun w => w.category).sum) 8 = true) (H : am_X L xs d 193 0 [some (.ref 64), some (.int x1), some (.int x2), some (.int x3), some (.int x4), none, none, none] [] am_C0 h o g (fun w h' o' g' => am_X L xs (d + 1) mi c lv (w.toList ++ r) am_C0 h' o' g' Q T) T) : am_X L xs (d + 1) mi pc lv (.int x4 :: .int x3 :: .int x2 :: .int x1 :: .ref 64 :: r) am_C0 h o g Q T :=
  xo_36 [some (.ref 64), some (.int x1), some (.int x2), some (.int x3), some (.int x4), none, none, none] r hp ⟨Nat.le_add_left 5 _, Nat.le_of_ble_eq_true hs, Nat.le_of_ble_eq_true rfl, (rv_64 _)⟩ rfl rfl hh H
theorem hd_194 : am_hd 194 = [] := rfl
theorem hd_195 : am_hd 195 = [] := rfl
theorem hd_196 : am_hd 196 = [] := rfl
theorem hd_197 : am_hd 197 = [] := rfl
theorem cl_178_64 {x1 : Int32} {x2 : Int32} {x3 : Int32} (hp : am_P mi pc = some (36, 178, 4, c, v)) (hh : am_hd mi = []) (hs : Nat.ble ((r.map fun w => w.category).sum) 8 = true) (H : am_X L xs d 178 0 [some (.ref 64), some (.int x1), some (.int x2), some (.int x3)] [] am_C0 h o g (fun w h' o' g' => am_X L xs (d + 1) mi c lv (w.toList ++ r) am_C0 h' o' g' Q T) T) : am_X L xs (d + 1) mi pc lv (.int x3 :: .int x2 :: .int x1 :: .ref 64 :: r) am_C0 h o g Q T :=
  xo_36 [some (.ref 64), some (.int x1), some (.int x2), some (.int x3)] r hp ⟨Nat.le_add_left 4 _, Nat.le_of_ble_eq_true hs, Nat.le_of_ble_eq_true rfl, (rv_64 _)⟩ rfl rfl hh H
theorem cl_179_64 {x1 : Int32} {x2 : Int32} {x3 : Int32} {x4 : Int32} {x5 : Int32} (hp : am_P mi pc = some (36, 179, 6, c, v)) (hh : am_hd mi = []) (hs : Nat.ble ((r.map fun w => w.category).sum) 8 = true) (H : am_X L xs d 179 0 [some (.ref 64), some (.int x1), some (.int x2), some (.int x3), some (.int x4), some (.int x5), none] [] am_C0 h o g (fun w h' o' g' => am_X L xs (d + 1) mi c lv (w.toList ++ r) am_C0 h' o' g' Q T) T) : am_X L xs (d + 1) mi pc lv (.int x5 :: .int x4 :: .int x3 :: .int x2 :: .int x1 :: .ref 64 :: r) am_C0 h o g Q T :=
  xo_36 [some (.ref 64), some (.int x1), some (.int x2), some (.int x3), some (.int x4), some (.int x5), none] r hp ⟨Nat.le_add_left 6 _, Nat.le_of_ble_eq_true hs, Nat.le_of_ble_eq_true rfl, (rv_64 _)⟩ rfl rfl hh H
theorem cl_198_64 {x1 : Int32} {x2 : Int32} (hp : am_P mi pc = some (36, 198, 3, c, v)) (hh : am_hd mi = []) (hs : Nat.ble ((r.map fun w => w.category).sum) 8 = true) (H : am_X L xs d 198 0 [some (.ref 64), some (.int x1), some (.int x2)] [] am_C0 h o g (fun w h' o' g' => am_X L xs (d + 1) mi c lv (w.toList ++ r) am_C0 h' o' g' Q T) T) : am_X L xs (d + 1) mi pc lv (.int x2 :: .int x1 :: .ref 64 :: r) am_C0 h o g Q T :=
  xo_36 [some (.ref 64), some (.int x1), some (.int x2)] r hp ⟨Nat.le_add_left 3 _, Nat.le_of_ble_eq_true hs, Nat.le_of_ble_eq_true rfl, (rv_64 _)⟩ rfl rfl hh H
theorem hd_199 : am_hd 199 = [] := rfl
theorem cr_0_4 : am_fR am_C0 0 6 4 34 := am_fR.lit rfl
theorem rv_34 (as : List Value) : am_recv 0 (.ref 34 :: as) am_C0 = true := rfl
theorem cl_21_34_23 (hp : am_P mi pc = some (36, 21, 2, c, v)) (hh : am_hd mi = []) (hs : Nat.ble ((r.map fun w => w.category).sum) 8 = true) (H : am_X L xs d 21 0 [some (.ref 34), some (.ref 23), none] [] am_C0 h o g (fun w h' o' g' => am_X L xs (d + 1) mi c lv (w.toList ++ r) am_C0 h' o' g' Q T) T) : am_X L xs (d + 1) mi pc lv (.ref 23 :: .ref 34 :: r) am_C0 h o g Q T :=
  xo_36 [some (.ref 34), some (.ref 23), none] r hp ⟨Nat.le_add_left 2 _, Nat.le_of_ble_eq_true hs, Nat.le_of_ble_eq_true rfl, (rv_34 _)⟩ rfl rfl hh H
theorem hd_20 : am_hd 20 = [] := rfl
theorem cf_0_5 : am_fI am_C0 0 6 5 := am_fI.lit rfl
theorem hd_200 : am_hd 200 = [] := rfl
theorem cf_64_49 : am_fI am_C0 64 7 49 := am_fI.lit rfl
theorem cf_64_50 : am_fI am_C0 64 7 50 := am_fI.lit rfl
theorem cl_201_64 {x1 : Int32} {x2 : Int32} {x3 : Int32} (hp : am_P mi pc = some (36, 201, 4, c, v)) (hh : am_hd mi = []) (hs : Nat.ble ((r.map fun w => w.category).sum) 8 = true) (H : am_X L xs d 201 0 [some (.ref 64), some (.int x1), some (.int x2), some (.int x3), none] [] am_C0 h o g (fun w h' o' g' => am_X L xs (d + 1) mi c lv (w.toList ++ r) am_C0 h' o' g' Q T) T) : am_X L xs (d + 1) mi pc lv (.int x3 :: .int x2 :: .int x1 :: .ref 64 :: r) am_C0 h o g Q T :=
  xo_36 [some (.ref 64), some (.int x1), some (.int x2), some (.int x3), none] r hp ⟨Nat.le_add_left 4 _, Nat.le_of_ble_eq_true hs, Nat.le_of_ble_eq_true rfl, (rv_64 _)⟩ rfl rfl hh H
theorem cr_64_46 : am_fR am_C0 64 7 46 95 := am_fR.lit rfl
theorem ca_95 : am_aI am_C0 95 0 5 := am_aI.lit rfl rfl
theorem cr_64_47 : am_fR am_C0 64 7 47 96 := am_fR.lit rfl
theorem ca_96 : am_aI am_C0 96 0 5 := am_aI.lit rfl rfl
theorem cf_64_52 : am_fI am_C0 64 7 52 := am_fI.lit rfl
theorem cr_64_53 : am_fR am_C0 64 7 53 98 := am_fR.lit rfl
theorem cl_203_98_82 (hp : am_P mi pc = some (36, 203, 2, c, v)) (hh : am_hd mi = []) (hs : Nat.ble ((r.map fun w => w.category).sum) 8 = true) (H : am_X L xs d 203 0 [some (.ref 98), some (.ref 82), none] [] am_C0 h o g (fun w h' o' g' => am_X L xs (d + 1) mi c lv (w.toList ++ r) am_C0 h' o' g' Q T) T) : am_X L xs (d + 1) mi pc lv (.ref 82 :: .ref 98 :: r) am_C0 h o g Q T :=
  xo_36 [some (.ref 98), some (.ref 82), none] r hp ⟨Nat.le_add_left 2 _, Nat.le_of_ble_eq_true hs, Nat.le_of_ble_eq_true rfl, rfl⟩ rfl rfl hh H
theorem hd_202 : am_hd 202 = [] := rfl
theorem cr_64_54 : am_fR am_C0 64 7 54 99 := am_fR.lit rfl
theorem cl_203_99_83 (hp : am_P mi pc = some (36, 203, 2, c, v)) (hh : am_hd mi = []) (hs : Nat.ble ((r.map fun w => w.category).sum) 8 = true) (H : am_X L xs d 203 0 [some (.ref 99), some (.ref 83), none] [] am_C0 h o g (fun w h' o' g' => am_X L xs (d + 1) mi c lv (w.toList ++ r) am_C0 h' o' g' Q T) T) : am_X L xs (d + 1) mi pc lv (.ref 83 :: .ref 99 :: r) am_C0 h o g Q T :=
  xo_36 [some (.ref 99), some (.ref 83), none] r hp ⟨Nat.le_add_left 2 _, Nat.le_of_ble_eq_true hs, Nat.le_of_ble_eq_true rfl, rfl⟩ rfl rfl hh H
theorem cr_64_55 : am_fR am_C0 64 7 55 100 := am_fR.lit rfl
theorem cl_203_100_84 (hp : am_P mi pc = some (36, 203, 2, c, v)) (hh : am_hd mi = []) (hs : Nat.ble ((r.map fun w => w.category).sum) 8 = true) (H : am_X L xs d 203 0 [some (.ref 100), some (.ref 84), none] [] am_C0 h o g (fun w h' o' g' => am_X L xs (d + 1) mi c lv (w.toList ++ r) am_C0 h' o' g' Q T) T) : am_X L xs (d + 1) mi pc lv (.ref 84 :: .ref 100 :: r) am_C0 h o g Q T :=
  xo_36 [some (.ref 100), some (.ref 84), none] r hp ⟨Nat.le_add_left 2 _, Nat.le_of_ble_eq_true hs, Nat.le_of_ble_eq_true rfl, rfl⟩ rfl rfl hh H
theorem cr_64_56 : am_fR am_C0 64 7 56 101 := am_fR.lit rfl
theorem cl_203_101_85 (hp : am_P mi pc = some (36, 203, 2, c, v)) (hh : am_hd mi = []) (hs : Nat.ble ((r.map fun w => w.category).sum) 8 = true) (H : am_X L xs d 203 0 [some (.ref 101), some (.ref 85), none] [] am_C0 h o g (fun w h' o' g' => am_X L xs (d + 1) mi c lv (w.toList ++ r) am_C0 h' o' g' Q T) T) : am_X L xs (d + 1) mi pc lv (.ref 85 :: .ref 101 :: r) am_C0 h o g Q T :=
  xo_36 [some (.ref 101), some (.ref 85), none] r hp ⟨Nat.le_add_left 2 _, Nat.le_of_ble_eq_true hs, Nat.le_of_ble_eq_true rfl, rfl⟩ rfl rfl hh H
theorem cr_64_57 : am_fR am_C0 64 7 57 102 := am_fR.lit rfl
theorem cl_203_102_86 (hp : am_P mi pc = some (36, 203, 2, c, v)) (hh : am_hd mi = []) (hs : Nat.ble ((r.map fun w => w.category).sum) 8 = true) (H : am_X L xs d 203 0 [some (.ref 102), some (.ref 86), none] [] am_C0 h o g (fun w h' o' g' => am_X L xs (d + 1) mi c lv (w.toList ++ r) am_C0 h' o' g' Q T) T) : am_X L xs (d + 1) mi pc lv (.ref 86 :: .ref 102 :: r) am_C0 h o g Q T :=
  xo_36 [some (.ref 102), some (.ref 86), none] r hp ⟨Nat.le_add_left 2 _, Nat.le_of_ble_eq_true hs, Nat.le_of_ble_eq_true rfl, rfl⟩ rfl rfl hh H
theorem cr_64_58 : am_fR am_C0 64 7 58 103 := am_fR.lit rfl
theorem cl_203_103_77 (hp : am_P mi pc = some (36, 203, 2, c, v)) (hh : am_hd mi = []) (hs : Nat.ble ((r.map fun w => w.category).sum) 8 = true) (H : am_X L xs d 203 0 [some (.ref 103), some (.ref 77), none] [] am_C0 h o g (fun w h' o' g' => am_X L xs (d + 1) mi c lv (w.toList ++ r) am_C0 h' o' g' Q T) T) : am_X L xs (d + 1) mi pc lv (.ref 77 :: .ref 103 :: r) am_C0 h o g Q T :=
  xo_36 [some (.ref 103), some (.ref 77), none] r hp ⟨Nat.le_add_left 2 _, Nat.le_of_ble_eq_true hs, Nat.le_of_ble_eq_true rfl, rfl⟩ rfl rfl hh H
theorem cr_64_59 : am_fR am_C0 64 7 59 104 := am_fR.lit rfl
theorem cl_203_104_79 (hp : am_P mi pc = some (36, 203, 2, c, v)) (hh : am_hd mi = []) (hs : Nat.ble ((r.map fun w => w.category).sum) 8 = true) (H : am_X L xs d 203 0 [some (.ref 104), some (.ref 79), none] [] am_C0 h o g (fun w h' o' g' => am_X L xs (d + 1) mi c lv (w.toList ++ r) am_C0 h' o' g' Q T) T) : am_X L xs (d + 1) mi pc lv (.ref 79 :: .ref 104 :: r) am_C0 h o g Q T :=
  xo_36 [some (.ref 104), some (.ref 79), none] r hp ⟨Nat.le_add_left 2 _, Nat.le_of_ble_eq_true hs, Nat.le_of_ble_eq_true rfl, rfl⟩ rfl rfl hh H
theorem cr_64_60 : am_fR am_C0 64 7 60 105 := am_fR.lit rfl
theorem cl_203_105_80 (hp : am_P mi pc = some (36, 203, 2, c, v)) (hh : am_hd mi = []) (hs : Nat.ble ((r.map fun w => w.category).sum) 8 = true) (H : am_X L xs d 203 0 [some (.ref 105), some (.ref 80), none] [] am_C0 h o g (fun w h' o' g' => am_X L xs (d + 1) mi c lv (w.toList ++ r) am_C0 h' o' g' Q T) T) : am_X L xs (d + 1) mi pc lv (.ref 80 :: .ref 105 :: r) am_C0 h o g Q T :=
  xo_36 [some (.ref 105), some (.ref 80), none] r hp ⟨Nat.le_add_left 2 _, Nat.le_of_ble_eq_true hs, Nat.le_of_ble_eq_true rfl, rfl⟩ rfl rfl hh H
theorem cr_64_61 : am_fR am_C0 64 7 61 106 := am_fR.lit rfl
theorem cl_203_106_78 (hp : am_P mi pc = some (36, 203, 2, c, v)) (hh : am_hd mi = []) (hs : Nat.ble ((r.map fun w => w.category).sum) 8 = true) (H : am_X L xs d 203 0 [some (.ref 106), some (.ref 78), none] [] am_C0 h o g (fun w h' o' g' => am_X L xs (d + 1) mi c lv (w.toList ++ r) am_C0 h' o' g' Q T) T) : am_X L xs (d + 1) mi pc lv (.ref 78 :: .ref 106 :: r) am_C0 h o g Q T :=
  xo_36 [some (.ref 106), some (.ref 78), none] r hp ⟨Nat.le_add_left 2 _, Nat.le_of_ble_eq_true hs, Nat.le_of_ble_eq_true rfl, rfl⟩ rfl rfl hh H
theorem cr_64_62 : am_fR am_C0 64 7 62 107 := am_fR.lit rfl
theorem ca_107 : am_aI am_C0 107 2 80 := am_aI.lit rfl rfl
theorem cl_203_82_98 (hp : am_P mi pc = some (36, 203, 2, c, v)) (hh : am_hd mi = []) (hs : Nat.ble ((r.map fun w => w.category).sum) 8 = true) (H : am_X L xs d 203 0 [some (.ref 82), some (.ref 98), none] [] am_C0 h o g (fun w h' o' g' => am_X L xs (d + 1) mi c lv (w.toList ++ r) am_C0 h' o' g' Q T) T) : am_X L xs (d + 1) mi pc lv (.ref 98 :: .ref 82 :: r) am_C0 h o g Q T :=
  xo_36 [some (.ref 82), some (.ref 98), none] r hp ⟨Nat.le_add_left 2 _, Nat.le_of_ble_eq_true hs, Nat.le_of_ble_eq_true rfl, rfl⟩ rfl rfl hh H
theorem hd_204 : am_hd 204 = [] := rfl
theorem cl_203_83_99 (hp : am_P mi pc = some (36, 203, 2, c, v)) (hh : am_hd mi = []) (hs : Nat.ble ((r.map fun w => w.category).sum) 8 = true) (H : am_X L xs d 203 0 [some (.ref 83), some (.ref 99), none] [] am_C0 h o g (fun w h' o' g' => am_X L xs (d + 1) mi c lv (w.toList ++ r) am_C0 h' o' g' Q T) T) : am_X L xs (d + 1) mi pc lv (.ref 99 :: .ref 83 :: r) am_C0 h o g Q T :=
  xo_36 [some (.ref 83), some (.ref 99), none] r hp ⟨Nat.le_add_left 2 _, Nat.le_of_ble_eq_true hs, Nat.le_of_ble_eq_true rfl, rfl⟩ rfl rfl hh H
theorem cl_203_84_100 (hp : am_P mi pc = some (36, 203, 2, c, v)) (hh : am_hd mi = []) (hs : Nat.ble ((r.map fun w => w.category).sum) 8 = true) (H : am_X L xs d 203 0 [some (.ref 84), some (.ref 100), none] [] am_C0 h o g (fun w h' o' g' => am_X L xs (d + 1) mi c lv (w.toList ++ r) am_C0 h' o' g' Q T) T) : am_X L xs (d + 1) mi pc lv (.ref 100 :: .ref 84 :: r) am_C0 h o g Q T :=
  xo_36 [some (.ref 84), some (.ref 100), none] r hp ⟨Nat.le_add_left 2 _, Nat.le_of_ble_eq_true hs, Nat.le_of_ble_eq_true rfl, rfl⟩ rfl rfl hh H
theorem cl_203_85_101 (hp : am_P mi pc = some (36, 203, 2, c, v)) (hh : am_hd mi = []) (hs : Nat.ble ((r.map fun w => w.category).sum) 8 = true) (H : am_X L xs d 203 0 [some (.ref 85), some (.ref 101), none] [] am_C0 h o g (fun w h' o' g' => am_X L xs (d + 1) mi c lv (w.toList ++ r) am_C0 h' o' g' Q T) T) : am_X L xs (d + 1) mi pc lv (.ref 101 :: .ref 85 :: r) am_C0 h o g Q T :=
  xo_36 [some (.ref 85), some (.ref 101), none] r hp ⟨Nat.le_add_left 2 _, Nat.le_of_ble_eq_true hs, Nat.le_of_ble_eq_true rfl, rfl⟩ rfl rfl hh H
theorem cl_203_86_102 (hp : am_P mi pc = some (36, 203, 2, c, v)) (hh : am_hd mi = []) (hs : Nat.ble ((r.map fun w => w.category).sum) 8 = true) (H : am_X L xs d 203 0 [some (.ref 86), some (.ref 102), none] [] am_C0 h o g (fun w h' o' g' => am_X L xs (d + 1) mi c lv (w.toList ++ r) am_C0 h' o' g' Q T) T) : am_X L xs (d + 1) mi pc lv (.ref 102 :: .ref 86 :: r) am_C0 h o g Q T :=
  xo_36 [some (.ref 86), some (.ref 102), none] r hp ⟨Nat.le_add_left 2 _, Nat.le_of_ble_eq_true hs, Nat.le_of_ble_eq_true rfl, rfl⟩ rfl rfl hh H
theorem cl_203_77_103 (hp : am_P mi pc = some (36, 203, 2, c, v)) (hh : am_hd mi = []) (hs : Nat.ble ((r.map fun w => w.category).sum) 8 = true) (H : am_X L xs d 203 0 [some (.ref 77), some (.ref 103), none] [] am_C0 h o g (fun w h' o' g' => am_X L xs (d + 1) mi c lv (w.toList ++ r) am_C0 h' o' g' Q T) T) : am_X L xs (d + 1) mi pc lv (.ref 103 :: .ref 77 :: r) am_C0 h o g Q T :=
  xo_36 [some (.ref 77), some (.ref 103), none] r hp ⟨Nat.le_add_left 2 _, Nat.le_of_ble_eq_true hs, Nat.le_of_ble_eq_true rfl, rfl⟩ rfl rfl hh H
theorem cl_203_79_104 (hp : am_P mi pc = some (36, 203, 2, c, v)) (hh : am_hd mi = []) (hs : Nat.ble ((r.map fun w => w.category).sum) 8 = true) (H : am_X L xs d 203 0 [some (.ref 79), some (.ref 104), none] [] am_C0 h o g (fun w h' o' g' => am_X L xs (d + 1) mi c lv (w.toList ++ r) am_C0 h' o' g' Q T) T) : am_X L xs (d + 1) mi pc lv (.ref 104 :: .ref 79 :: r) am_C0 h o g Q T :=
  xo_36 [some (.ref 79), some (.ref 104), none] r hp ⟨Nat.le_add_left 2 _, Nat.le_of_ble_eq_true hs, Nat.le_of_ble_eq_true rfl, rfl⟩ rfl rfl hh H
theorem cl_203_80_105 (hp : am_P mi pc = some (36, 203, 2, c, v)) (hh : am_hd mi = []) (hs : Nat.ble ((r.map fun w => w.category).sum) 8 = true) (H : am_X L xs d 203 0 [some (.ref 80), some (.ref 105), none] [] am_C0 h o g (fun w h' o' g' => am_X L xs (d + 1) mi c lv (w.toList ++ r) am_C0 h' o' g' Q T) T) : am_X L xs (d + 1) mi pc lv (.ref 105 :: .ref 80 :: r) am_C0 h o g Q T :=
  xo_36 [some (.ref 80), some (.ref 105), none] r hp ⟨Nat.le_add_left 2 _, Nat.le_of_ble_eq_true hs, Nat.le_of_ble_eq_true rfl, rfl⟩ rfl rfl hh H
theorem cl_203_78_106 (hp : am_P mi pc = some (36, 203, 2, c, v)) (hh : am_hd mi = []) (hs : Nat.ble ((r.map fun w => w.category).sum) 8 = true) (H : am_X L xs d 203 0 [some (.ref 78), some (.ref 106), none] [] am_C0 h o g (fun w h' o' g' => am_X L xs (d + 1) mi c lv (w.toList ++ r) am_C0 h' o' g' Q T) T) : am_X L xs (d + 1) mi pc lv (.ref 106 :: .ref 78 :: r) am_C0 h o g Q T :=
  xo_36 [some (.ref 78), some (.ref 106), none] r hp ⟨Nat.le_add_left 2 _, Nat.le_of_ble_eq_true hs, Nat.le_of_ble_eq_true rfl, rfl⟩ rfl rfl hh H
theorem rv_23 (as : List Value) : am_recv 0 (.ref 23 :: as) am_C0 = true := rfl
theorem cl_21_23_34 (hp : am_P mi pc = some (36, 21, 2, c, v)) (hh : am_hd mi = []) (hs : Nat.ble ((r.map fun w => w.category).sum) 8 = true) (H : am_X L xs d 21 0 [some (.ref 23), some (.ref 34), none] [] am_C0 h o g (fun w h' o' g' => am_X L xs (d + 1) mi c lv (w.toList ++ r) am_C0 h' o' g' Q T) T) : am_X L xs (d + 1) mi pc lv (.ref 34 :: .ref 23 :: r) am_C0 h o g Q T :=
  xo_36 [some (.ref 23), some (.ref 34), none] r hp ⟨Nat.le_add_left 2 _, Nat.le_of_ble_eq_true hs, Nat.le_of_ble_eq_true rfl, (rv_23 _)⟩ rfl rfl hh H
theorem hd_22 : am_hd 22 = [] := rfl
theorem ch_24 {x1 : Int32} (hp : am_P mi pc = some (36, 24, 2, c, v)) (hs : Nat.ble ((r.map fun w => w.category).sum) 8 = true) (H : am_X L xs d 24 0 [some (.ref 0), some (.int x1), none] [] am_C0 h o g (fun w h' o' g' => am_X L xs (d + 1) mi c lv (w.toList ++ r) am_C0 h' o' g' Q T) (fun E h' o' g' => match am_hand (am_hd mi) pc E with | none => T E h' o' g' | some (pc', j) => am_X L xs (d + 1) mi pc' (am_st1 lv j none) [] am_C0 h' o' g' Q T)) : am_X L xs (d + 1) mi pc lv (.int x1 :: .ref 0 :: r) am_C0 h o g Q T :=
  xo_36h [some (.ref 0), some (.int x1), none] r hp ⟨Nat.le_add_left 2 _, Nat.le_of_ble_eq_true hs, Nat.le_of_ble_eq_true rfl, rv_0 _⟩ rfl rfl H
theorem ch_42 {x1 : Int32} (hp : am_P mi pc = some (36, 42, 2, c, v)) (hs : Nat.ble ((r.map fun w => w.category).sum) 8 = true) (H : am_X L xs d 42 0 [some (.ref 0), some (.int x1)] [] am_C0 h o g (fun w h' o' g' => am_X L xs (d + 1) mi c lv (w.toList ++ r) am_C0 h' o' g' Q T) (fun E h' o' g' => match am_hand (am_hd mi) pc E with | none => T E h' o' g' | some (pc', j) => am_X L xs (d + 1) mi pc' (am_st1 lv j none) [] am_C0 h' o' g' Q T)) : am_X L xs (d + 1) mi pc lv (.int x1 :: .ref 0 :: r) am_C0 h o g Q T :=
  xo_36h [some (.ref 0), some (.int x1)] r hp ⟨Nat.le_add_left 2 _, Nat.le_of_ble_eq_true hs, Nat.le_of_ble_eq_true rfl, rv_0 _⟩ rfl rfl H
theorem ch_44 {x1 : Int32} {x2 : Int32} (hp : am_P mi pc = some (36, 44, 3, c, v)) (hs : Nat.ble ((r.map fun w => w.category).sum) 8 = true) (H : am_X L xs d 44 0 [some (.ref 0), some (.int x1), some (.int x2)] [] am_C0 h o g (fun w h' o' g' => am_X L xs (d + 1) mi c lv (w.toList ++ r) am_C0 h' o' g' Q T) (fun E h' o' g' => match am_hand (am_hd mi) pc E with | none => T E h' o' g' | some (pc', j) => am_X L xs (d + 1) mi pc' (am_st1 lv j none) [] am_C0 h' o' g' Q T)) : am_X L xs (d + 1) mi pc lv (.int x2 :: .int x1 :: .ref 0 :: r) am_C0 h o g Q T :=
  xo_36h [some (.ref 0), some (.int x1), some (.int x2)] r hp ⟨Nat.le_add_left 3 _, Nat.le_of_ble_eq_true hs, Nat.le_of_ble_eq_true rfl, rv_0 _⟩ rfl rfl H
theorem ch_49 {x1 : Int32} {x2 : Int32} (hp : am_P mi pc = some (36, 49, 3, c, v)) (hs : Nat.ble ((r.map fun w => w.category).sum) 8 = true) (H : am_X L xs d 49 0 [some (.ref 0), some (.int x1), some (.int x2), none, none] [] am_C0 h o g (fun w h' o' g' => am_X L xs (d + 1) mi c lv (w.toList ++ r) am_C0 h' o' g' Q T) (fun E h' o' g' => match am_hand (am_hd mi) pc E with | none => T E h' o' g' | some (pc', j) => am_X L xs (d + 1) mi pc' (am_st1 lv j none) [] am_C0 h' o' g' Q T)) : am_X L xs (d + 1) mi pc lv (.int x2 :: .int x1 :: .ref 0 :: r) am_C0 h o g Q T :=
  xo_36h [some (.ref 0), some (.int x1), some (.int x2), none, none] r hp ⟨Nat.le_add_left 3 _, Nat.le_of_ble_eq_true hs, Nat.le_of_ble_eq_true rfl, rv_0 _⟩ rfl rfl H
theorem ch_56 {x1 : Int32} {x2 : Int32} {x3 : Int32} (hp : am_P mi pc = some (36, 56, 4, c, v)) (hs : Nat.ble ((r.map fun w => w.category).sum) 8 = true) (H : am_X L xs d 56 0 [some (.ref 0), some (.int x1), some (.int x2), some (.int x3)] [] am_C0 h o g (fun w h' o' g' => am_X L xs (d + 1) mi c lv (w.toList ++ r) am_C0 h' o' g' Q T) (fun E h' o' g' => match am_hand (am_hd mi) pc E with | none => T E h' o' g' | some (pc', j) => am_X L xs (d + 1) mi pc' (am_st1 lv j none) [] am_C0 h' o' g' Q T)) : am_X L xs (d + 1) mi pc lv (.int x3 :: .int x2 :: .int x1 :: .ref 0 :: r) am_C0 h o g Q T :=
  xo_36h [some (.ref 0), some (.int x1), some (.int x2), some (.int x3)] r hp ⟨Nat.le_add_left 4 _, Nat.le_of_ble_eq_true hs, Nat.le_of_ble_eq_true rfl, rv_0 _⟩ rfl rfl H
theorem ch_63 {x1 : Int32} {x2 : Int32} (hp : am_P mi pc = some (36, 63, 3, c, v)) (hs : Nat.ble ((r.map fun w => w.category).sum) 8 = true) (H : am_X L xs d 63 0 [some (.ref 0), some (.int x1), some (.int x2)] [] am_C0 h o g (fun w h' o' g' => am_X L xs (d + 1) mi c lv (w.toList ++ r) am_C0 h' o' g' Q T) (fun E h' o' g' => match am_hand (am_hd mi) pc E with | none => T E h' o' g' | some (pc', j) => am_X L xs (d + 1) mi pc' (am_st1 lv j none) [] am_C0 h' o' g' Q T)) : am_X L xs (d + 1) mi pc lv (.int x2 :: .int x1 :: .ref 0 :: r) am_C0 h o g Q T :=
  xo_36h [some (.ref 0), some (.int x1), some (.int x2)] r hp ⟨Nat.le_add_left 3 _, Nat.le_of_ble_eq_true hs, Nat.le_of_ble_eq_true rfl, rv_0 _⟩ rfl rfl H
theorem ch_65 {x1 : Int32} {x2 : Int32} {x3 : Int32} {x4 : Int32} (hp : am_P mi pc = some (36, 65, 5, c, v)) (hs : Nat.ble ((r.map fun w => w.category).sum) 8 = true) (H : am_X L xs d 65 0 [some (.ref 0), some (.int x1), some (.int x2), some (.int x3), some (.int x4)] [] am_C0 h o g (fun w h' o' g' => am_X L xs (d + 1) mi c lv (w.toList ++ r) am_C0 h' o' g' Q T) (fun E h' o' g' => match am_hand (am_hd mi) pc E with | none => T E h' o' g' | some (pc', j) => am_X L xs (d + 1) mi pc' (am_st1 lv j none) [] am_C0 h' o' g' Q T)) : am_X L xs (d + 1) mi pc lv (.int x4 :: .int x3 :: .int x2 :: .int x1 :: .ref 0 :: r) am_C0 h o g Q T :=
  xo_36h [some (.ref 0), some (.int x1), some (.int x2), some (.int x3), some (.int x4)] r hp ⟨Nat.le_add_left 5 _, Nat.le_of_ble_eq_true hs, Nat.le_of_ble_eq_true rfl, rv_0 _⟩ rfl rfl H
theorem ch_72 {x1 : Int32} {x2 : Int32} {x3 : Int32} {x4 : Int32} {x5 : Int32} {x6 : Int32} (hp : am_P mi pc = some (36, 72, 7, c, v)) (hs : Nat.ble ((r.map fun w => w.category).sum) 8 = true) (H : am_X L xs d 72 0 [some (.ref 0), some (.int x1), some (.int x2), some (.int x3), some (.int x4), some (.int x5), some (.int x6)] [] am_C0 h o g (fun w h' o' g' => am_X L xs (d + 1) mi c lv (w.toList ++ r) am_C0 h' o' g' Q T) (fun E h' o' g' => match am_hand (am_hd mi) pc E with | none => T E h' o' g' | some (pc', j) => am_X L xs (d + 1) mi pc' (am_st1 lv j none) [] am_C0 h' o' g' Q T)) : am_X L xs (d + 1) mi pc lv (.int x6 :: .int x5 :: .int x4 :: .int x3 :: .int x2 :: .int x1 :: .ref 0 :: r) am_C0 h o g Q T :=
  xo_36h [some (.ref 0), some (.int x1), some (.int x2), some (.int x3), some (.int x4), some (.int x5), some (.int x6)] r hp ⟨Nat.le_add_left 7 _, Nat.le_of_ble_eq_true hs, Nat.le_of_ble_eq_true rfl, rv_0 _⟩ rfl rfl H
theorem ch_74 {x1 : Int32} {x2 : Int32} {x3 : Int32} {x4 : Int32} (hp : am_P mi pc = some (36, 74, 5, c, v)) (hs : Nat.ble ((r.map fun w => w.category).sum) 8 = true) (H : am_X L xs d 74 0 [some (.ref 0), some (.int x1), some (.int x2), some (.int x3), some (.int x4)] [] am_C0 h o g (fun w h' o' g' => am_X L xs (d + 1) mi c lv (w.toList ++ r) am_C0 h' o' g' Q T) (fun E h' o' g' => match am_hand (am_hd mi) pc E with | none => T E h' o' g' | some (pc', j) => am_X L xs (d + 1) mi pc' (am_st1 lv j none) [] am_C0 h' o' g' Q T)) : am_X L xs (d + 1) mi pc lv (.int x4 :: .int x3 :: .int x2 :: .int x1 :: .ref 0 :: r) am_C0 h o g Q T :=
  xo_36h [some (.ref 0), some (.int x1), some (.int x2), some (.int x3), some (.int x4)] r hp ⟨Nat.le_add_left 5 _, Nat.le_of_ble_eq_true hs, Nat.le_of_ble_eq_true rfl, rv_0 _⟩ rfl rfl H
theorem ch_79 {x1 : Int32} {x2 : Int32} {x3 : Int32} {x4 : Int32} {x5 : Int32} {x6 : Int32} (hp : am_P mi pc = some (36, 79, 7, c, v)) (hs : Nat.ble ((r.map fun w => w.category).sum) 8 = true) (H : am_X L xs d 79 0 [some (.ref 0), some (.int x1), some (.int x2), some (.int x3), some (.int x4), some (.int x5), some (.int x6)] [] am_C0 h o g (fun w h' o' g' => am_X L xs (d + 1) mi c lv (w.toList ++ r) am_C0 h' o' g' Q T) (fun E h' o' g' => match am_hand (am_hd mi) pc E with | none => T E h' o' g' | some (pc', j) => am_X L xs (d + 1) mi pc' (am_st1 lv j none) [] am_C0 h' o' g' Q T)) : am_X L xs (d + 1) mi pc lv (.int x6 :: .int x5 :: .int x4 :: .int x3 :: .int x2 :: .int x1 :: .ref 0 :: r) am_C0 h o g Q T :=
  xo_36h [some (.ref 0), some (.int x1), some (.int x2), some (.int x3), some (.int x4), some (.int x5), some (.int x6)] r hp ⟨Nat.le_add_left 7 _, Nat.le_of_ble_eq_true hs, Nat.le_of_ble_eq_true rfl, rv_0 _⟩ rfl rfl H
theorem rv_1 (as : List Value) : am_recv 4 (.ref 1 :: as) am_C0 = true := rfl
theorem cl_9_1 {x1 : Int32} (hp : am_P mi pc = some (36, 9, 2, c, v)) (hh : am_hd mi = []) (hs : Nat.ble ((r.map fun w => w.category).sum) 8 = true) (H : am_X L xs d 9 0 [some (.ref 1), some (.int x1)] [] am_C0 h o g (fun w h' o' g' => am_X L xs (d + 1) mi c lv (w.toList ++ r) am_C0 h' o' g' Q T) T) : am_X L xs (d + 1) mi pc lv (.int x1 :: .ref 1 :: r) am_C0 h o g Q T :=
  xo_36 [some (.ref 1), some (.int x1)] r hp ⟨Nat.le_add_left 2 _, Nat.le_of_ble_eq_true hs, Nat.le_of_ble_eq_true rfl, (rv_1 _)⟩ rfl rfl hh H
theorem hd_8 : am_hd 8 = [] := rfl
theorem cf_1_0 : am_fI am_C0 1 4 0 := am_fI.lit rfl
theorem cl_10_1 {x1 : Int32} (hp : am_P mi pc = some (36, 10, 2, c, v)) (hh : am_hd mi = []) (hs : Nat.ble ((r.map fun w => w.category).sum) 8 = true) (H : am_X L xs d 10 0 [some (.ref 1), some (.int x1), none] [] am_C0 h o g (fun w h' o' g' => am_X L xs (d + 1) mi c lv (w.toList ++ r) am_C0 h' o' g' Q T) T) : am_X L xs (d + 1) mi pc lv (.int x1 :: .ref 1 :: r) am_C0 h o g Q T :=
  xo_36 [some (.ref 1), some (.int x1), none] r hp ⟨Nat.le_add_left 2 _, Nat.le_of_ble_eq_true hs, Nat.le_of_ble_eq_true rfl, (rv_1 _)⟩ rfl rfl hh H
theorem ch_84 {x1 : Int32} {x2 : Int32} (hp : am_P mi pc = some (36, 84, 3, c, v)) (hs : Nat.ble ((r.map fun w => w.category).sum) 8 = true) (H : am_X L xs d 84 0 [some (.ref 0), some (.int x1), some (.int x2), none, none] [] am_C0 h o g (fun w h' o' g' => am_X L xs (d + 1) mi c lv (w.toList ++ r) am_C0 h' o' g' Q T) (fun E h' o' g' => match am_hand (am_hd mi) pc E with | none => T E h' o' g' | some (pc', j) => am_X L xs (d + 1) mi pc' (am_st1 lv j none) [] am_C0 h' o' g' Q T)) : am_X L xs (d + 1) mi pc lv (.int x2 :: .int x1 :: .ref 0 :: r) am_C0 h o g Q T :=
  xo_36h [some (.ref 0), some (.int x1), some (.int x2), none, none] r hp ⟨Nat.le_add_left 3 _, Nat.le_of_ble_eq_true hs, Nat.le_of_ble_eq_true rfl, rv_0 _⟩ rfl rfl H
theorem ch_95 {x1 : Int32} {x2 : Int32} (hp : am_P mi pc = some (36, 95, 3, c, v)) (hs : Nat.ble ((r.map fun w => w.category).sum) 8 = true) (H : am_X L xs d 95 0 [some (.ref 0), some (.int x1), some (.int x2)] [] am_C0 h o g (fun w h' o' g' => am_X L xs (d + 1) mi c lv (w.toList ++ r) am_C0 h' o' g' Q T) (fun E h' o' g' => match am_hand (am_hd mi) pc E with | none => T E h' o' g' | some (pc', j) => am_X L xs (d + 1) mi pc' (am_st1 lv j none) [] am_C0 h' o' g' Q T)) : am_X L xs (d + 1) mi pc lv (.int x2 :: .int x1 :: .ref 0 :: r) am_C0 h o g Q T :=
  xo_36h [some (.ref 0), some (.int x1), some (.int x2)] r hp ⟨Nat.le_add_left 3 _, Nat.le_of_ble_eq_true hs, Nat.le_of_ble_eq_true rfl, rv_0 _⟩ rfl rfl H
theorem ch_97 {x1 : Int32} {x2 : Int32} {x3 : Int32} {x4 : Int32} (hp : am_P mi pc = some (36, 97, 5, c, v)) (hs : Nat.ble ((r.map fun w => w.category).sum) 8 = true) (H : am_X L xs d 97 0 [some (.ref 0), some (.int x1), some (.int x2), some (.int x3), some (.int x4), none, none, none] [] am_C0 h o g (fun w h' o' g' => am_X L xs (d + 1) mi c lv (w.toList ++ r) am_C0 h' o' g' Q T) (fun E h' o' g' => match am_hand (am_hd mi) pc E with | none => T E h' o' g' | some (pc', j) => am_X L xs (d + 1) mi pc' (am_st1 lv j none) [] am_C0 h' o' g' Q T)) : am_X L xs (d + 1) mi pc lv (.int x4 :: .int x3 :: .int x2 :: .int x1 :: .ref 0 :: r) am_C0 h o g Q T :=
  xo_36h [some (.ref 0), some (.int x1), some (.int x2), some (.int x3), some (.int x4), none, none, none] r hp ⟨Nat.le_add_left 5 _, Nat.le_of_ble_eq_true hs, Nat.le_of_ble_eq_true rfl, rv_0 _⟩ rfl rfl H
theorem cr_1_2 : am_fR am_C0 1 4 2 2 := am_fR.lit rfl
theorem ca_2 : am_aI am_C0 2 1 500 := am_aI.lit rfl rfl
theorem cl_50_0 {x1 : Int32} (hp : am_P mi pc = some (36, 50, 2, c, v)) (hh : am_hd mi = []) (hs : Nat.ble ((r.map fun w => w.category).sum) 8 = true) (H : am_X L xs d 50 0 [some (.ref 0), some (.int x1)] [] am_C0 h o g (fun w h' o' g' => am_X L xs (d + 1) mi c lv (w.toList ++ r) am_C0 h' o' g' Q T) T) : am_X L xs (d + 1) mi pc lv (.int x1 :: .ref 0 :: r) am_C0 h o g Q T :=
  xo_36 [some (.ref 0), some (.int x1)] r hp ⟨Nat.le_add_left 2 _, Nat.le_of_ble_eq_true hs, Nat.le_of_ble_eq_true rfl, (rv_0 _)⟩ rfl rfl hh H
theorem hd_103 : am_hd 103 = [] := rfl
theorem cl_45_0 {x1 : Int32} (hp : am_P mi pc = some (36, 45, 2, c, v)) (hh : am_hd mi = []) (hs : Nat.ble ((r.map fun w => w.category).sum) 8 = true) (H : am_X L xs d 45 0 [some (.ref 0), some (.int x1)] [] am_C0 h o g (fun w h' o' g' => am_X L xs (d + 1) mi c lv (w.toList ++ r) am_C0 h' o' g' Q T) T) : am_X L xs (d + 1) mi pc lv (.int x1 :: .ref 0 :: r) am_C0 h o g Q T :=
  xo_36 [some (.ref 0), some (.int x1)] r hp ⟨Nat.le_add_left 2 _, Nat.le_of_ble_eq_true hs, Nat.le_of_ble_eq_true rfl, (rv_0 _)⟩ rfl rfl hh H
theorem cf_3_0 : am_fI am_C0 3 3 0 := am_fI.lit rfl
theorem cl_98_0 {x1 : Int32} (hp : am_P mi pc = some (36, 98, 2, c, v)) (hh : am_hd mi = []) (hs : Nat.ble ((r.map fun w => w.category).sum) 8 = true) (H : am_X L xs d 98 0 [some (.ref 0), some (.int x1)] [] am_C0 h o g (fun w h' o' g' => am_X L xs (d + 1) mi c lv (w.toList ++ r) am_C0 h' o' g' Q T) T) : am_X L xs (d + 1) mi pc lv (.int x1 :: .ref 0 :: r) am_C0 h o g Q T :=
  xo_36 [some (.ref 0), some (.int x1)] r hp ⟨Nat.le_add_left 2 _, Nat.le_of_ble_eq_true hs, Nat.le_of_ble_eq_true rfl, (rv_0 _)⟩ rfl rfl hh H
theorem cl_67 {x0 : Int32} (hp : am_P mi pc = some (36, 67, 1, c, v)) (hh : am_hd mi = []) (hs : Nat.ble ((r.map fun w => w.category).sum) 8 = true) (H : am_X L xs d 67 0 [some (.int x0)] [] am_C0 h o g (fun w h' o' g' => am_X L xs (d + 1) mi c lv (w.toList ++ r) am_C0 h' o' g' Q T) T) : am_X L xs (d + 1) mi pc lv (.int x0 :: r) am_C0 h o g Q T :=
  xo_36 [some (.int x0)] r hp ⟨Nat.le_add_left 1 _, Nat.le_of_ble_eq_true hs, Nat.le_of_ble_eq_true rfl, rfl⟩ rfl rfl hh H
theorem hd_98 : am_hd 98 = [] := rfl
theorem cl_85_0 {x1 : Int32} {x2 : Int32} (hp : am_P mi pc = some (36, 85, 3, c, v)) (hh : am_hd mi = []) (hs : Nat.ble ((r.map fun w => w.category).sum) 8 = true) (H : am_X L xs d 85 0 [some (.ref 0), some (.int x1), some (.int x2), none] [] am_C0 h o g (fun w h' o' g' => am_X L xs (d + 1) mi c lv (w.toList ++ r) am_C0 h' o' g' Q T) T) : am_X L xs (d + 1) mi pc lv (.int x2 :: .int x1 :: .ref 0 :: r) am_C0 h o g Q T :=
  xo_36 [some (.ref 0), some (.int x1), some (.int x2), none] r hp ⟨Nat.le_add_left 3 _, Nat.le_of_ble_eq_true hs, Nat.le_of_ble_eq_true rfl, (rv_0 _)⟩ rfl rfl hh H
theorem cl_99_0 {x1 : Int32} {x2 : Int32} (hp : am_P mi pc = some (36, 99, 3, c, v)) (hh : am_hd mi = []) (hs : Nat.ble ((r.map fun w => w.category).sum) 8 = true) (H : am_X L xs d 99 0 [some (.ref 0), some (.int x1), some (.int x2)] [] am_C0 h o g (fun w h' o' g' => am_X L xs (d + 1) mi c lv (w.toList ++ r) am_C0 h' o' g' Q T) T) : am_X L xs (d + 1) mi pc lv (.int x2 :: .int x1 :: .ref 0 :: r) am_C0 h o g Q T :=
  xo_36 [some (.ref 0), some (.int x1), some (.int x2)] r hp ⟨Nat.le_add_left 3 _, Nat.le_of_ble_eq_true hs, Nat.le_of_ble_eq_true rfl, (rv_0 _)⟩ rfl rfl hh H
theorem cl_104_0 {x1 : Int32} {x2 : Int32} (hp : am_P mi pc = some (36, 104, 3, c, v)) (hh : am_hd mi = []) (hs : Nat.ble ((r.map fun w => w.category).sum) 8 = true) (H : am_X L xs d 104 0 [some (.ref 0), some (.int x1), some (.int x2), none, none, none, none] [] am_C0 h o g (fun w h' o' g' => am_X L xs (d + 1) mi c lv (w.toList ++ r) am_C0 h' o' g' Q T) T) : am_X L xs (d + 1) mi pc lv (.int x2 :: .int x1 :: .ref 0 :: r) am_C0 h o g Q T :=
  xo_36 [some (.ref 0), some (.int x1), some (.int x2), none, none, none, none] r hp ⟨Nat.le_add_left 3 _, Nat.le_of_ble_eq_true hs, Nat.le_of_ble_eq_true rfl, (rv_0 _)⟩ rfl rfl hh H
theorem hd_108 : am_hd 108 = [] := rfl
theorem cl_51_0 {x1 : Int32} {x2 : Int32} (hp : am_P mi pc = some (36, 51, 3, c, v)) (hh : am_hd mi = []) (hs : Nat.ble ((r.map fun w => w.category).sum) 8 = true) (H : am_X L xs d 51 0 [some (.ref 0), some (.int x1), some (.int x2)] [] am_C0 h o g (fun w h' o' g' => am_X L xs (d + 1) mi c lv (w.toList ++ r) am_C0 h' o' g' Q T) T) : am_X L xs (d + 1) mi pc lv (.int x2 :: .int x1 :: .ref 0 :: r) am_C0 h o g Q T :=
  xo_36 [some (.ref 0), some (.int x1), some (.int x2)] r hp ⟨Nat.le_add_left 3 _, Nat.le_of_ble_eq_true hs, Nat.le_of_ble_eq_true rfl, (rv_0 _)⟩ rfl rfl hh H
theorem cl_68_23 {x1 : Int32} {x2 : Int32} (hp : am_P mi pc = some (36, 68, 3, c, v)) (hh : am_hd mi = []) (hs : Nat.ble ((r.map fun w => w.category).sum) 8 = true) (H : am_X L xs d 68 0 [some (.ref 23), some (.int x1), some (.int x2), none] [] am_C0 h o g (fun w h' o' g' => am_X L xs (d + 1) mi c lv (w.toList ++ r) am_C0 h' o' g' Q T) T) : am_X L xs (d + 1) mi pc lv (.int x2 :: .int x1 :: .ref 23 :: r) am_C0 h o g Q T :=
  xo_36 [some (.ref 23), some (.int x1), some (.int x2), none] r hp ⟨Nat.le_add_left 3 _, Nat.le_of_ble_eq_true hs, Nat.le_of_ble_eq_true rfl, (rv_23 _)⟩ rfl rfl hh H
theorem hd_110 : am_hd 110 = [] := rfl
theorem cl_57_0 {x1 : Int32} (hp : am_P mi pc = some (36, 57, 2, c, v)) (hh : am_hd mi = []) (hs : Nat.ble ((r.map fun w => w.category).sum) 8 = true) (H : am_X L xs d 57 0 [some (.ref 0), some (.int x1)] [] am_C0 h o g (fun w h' o' g' => am_X L xs (d + 1) mi c lv (w.toList ++ r) am_C0 h' o' g' Q T) T) : am_X L xs (d + 1) mi pc lv (.int x1 :: .ref 0 :: r) am_C0 h o g Q T :=
  xo_36 [some (.ref 0), some (.int x1)] r hp ⟨Nat.le_add_left 2 _, Nat.le_of_ble_eq_true hs, Nat.le_of_ble_eq_true rfl, (rv_0 _)⟩ rfl rfl hh H
theorem cf_3_2 : am_fI am_C0 3 3 2 := am_fI.lit rfl
theorem cl_80_0 {x1 : Int32} {x2 : Int32} {x3 : Int32} {x4 : Int32} (hp : am_P mi pc = some (36, 80, 5, c, v)) (hh : am_hd mi = []) (hs : Nat.ble ((r.map fun w => w.category).sum) 8 = true) (H : am_X L xs d 80 0 [some (.ref 0), some (.int x1), some (.int x2), some (.int x3), some (.int x4)] [] am_C0 h o g (fun w h' o' g' => am_X L xs (d + 1) mi c lv (w.toList ++ r) am_C0 h' o' g' Q T) T) : am_X L xs (d + 1) mi pc lv (.int x4 :: .int x3 :: .int x2 :: .int x1 :: .ref 0 :: r) am_C0 h o g Q T :=
  xo_36 [some (.ref 0), some (.int x1), some (.int x2), some (.int x3), some (.int x4)] r hp ⟨Nat.le_add_left 5 _, Nat.le_of_ble_eq_true hs, Nat.le_of_ble_eq_true rfl, (rv_0 _)⟩ rfl rfl hh H
theorem cr_3_5 : am_fR am_C0 3 3 5 6 := am_fR.lit rfl
theorem ca_6 : am_aI am_C0 6 0 5 := am_aI.lit rfl rfl
theorem cr_3_6 : am_fR am_C0 3 3 6 7 := am_fR.lit rfl
theorem ca_7 : am_aI am_C0 7 0 5 := am_aI.lit rfl rfl
theorem rv_3 (as : List Value) : am_recv 3 (.ref 3 :: as) am_C0 = true := rfl
theorem cl_60_3 {x1 : Int32} {x2 : Int32} {x3 : Int32} {x4 : Int32} (hp : am_P mi pc = some (36, 60, 5, c, v)) (hh : am_hd mi = []) (hs : Nat.ble ((r.map fun w => w.category).sum) 8 = true) (H : am_X L xs d 60 0 [some (.ref 3), some (.int x1), some (.int x2), some (.int x3), some (.int x4), none, none, none] [] am_C0 h o g (fun w h' o' g' => am_X L xs (d + 1) mi c lv (w.toList ++ r) am_C0 h' o' g' Q T) T) : am_X L xs (d + 1) mi pc lv (.int x4 :: .int x3 :: .int x2 :: .int x1 :: .ref 3 :: r) am_C0 h o g Q T :=
  xo_36 [some (.ref 3), some (.int x1), some (.int x2), some (.int x3), some (.int x4), none, none, none] r hp ⟨Nat.le_add_left 5 _, Nat.le_of_ble_eq_true hs, Nat.le_of_ble_eq_true rfl, (rv_3 _)⟩ rfl rfl hh H
theorem hd_112 : am_hd 112 = [] := rfl
theorem cr_0_8 : am_fR am_C0 0 6 8 61 := am_fR.lit rfl
theorem rv_61 (as : List Value) : am_recv 5 (.ref 61 :: as) am_C0 = true := rfl
theorem cl_19_61 (hp : am_P mi pc = some (36, 19, 1, c, v)) (hh : am_hd mi = []) (hs : Nat.ble ((r.map fun w => w.category).sum) 8 = true) (H : am_X L xs d 19 0 [some (.ref 61)] [] am_C0 h o g (fun w h' o' g' => am_X L xs (d + 1) mi c lv (w.toList ++ r) am_C0 h' o' g' Q T) T) : am_X L xs (d + 1) mi pc lv (.ref 61 :: r) am_C0 h o g Q T :=
  xo_36 [some (.ref 61)] r hp ⟨Nat.le_add_left 1 _, Nat.le_of_ble_eq_true hs, Nat.le_of_ble_eq_true rfl, (rv_61 _)⟩ rfl rfl hh H
theorem cf_61_0 : am_fI am_C0 61 5 0 := am_fI.lit rfl
theorem cf_61_1 : am_fI am_C0 61 5 1 := am_fI.lit rfl
theorem cl_81_0 {x1 : Int32} {x2 : Int32} {x3 : Int32} (hp : am_P mi pc = some (36, 81, 4, c, v)) (hh : am_hd mi = []) (hs : Nat.ble ((r.map fun w => w.category).sum) 8 = true) (H : am_X L xs d 81 0 [some (.ref 0), some (.int x1), some (.int x2), some (.int x3)] [] am_C0 h o g (fun w h' o' g' => am_X L xs (d + 1) mi c lv (w.toList ++ r) am_C0 h' o' g' Q T) T) : am_X L xs (d + 1) mi pc lv (.int x3 :: .int x2 :: .int x1 :: .ref 0 :: r) am_C0 h o g Q T :=
  xo_36 [some (.ref 0), some (.int x1), some (.int x2), some (.int x3)] r hp ⟨Nat.le_add_left 4 _, Nat.le_of_ble_eq_true hs, Nat.le_of_ble_eq_true rfl, (rv_0 _)⟩ rfl rfl hh H
theorem cl_82_3 {x1 : Int32} {x2 : Int32} (hp : am_P mi pc = some (36, 82, 3, c, v)) (hh : am_hd mi = []) (hs : Nat.ble ((r.map fun w => w.category).sum) 8 = true) (H : am_X L xs d 82 0 [some (.ref 3), some (.int x1), some (.int x2)] [] am_C0 h o g (fun w h' o' g' => am_X L xs (d + 1) mi c lv (w.toList ++ r) am_C0 h' o' g' Q T) T) : am_X L xs (d + 1) mi pc lv (.int x2 :: .int x1 :: .ref 3 :: r) am_C0 h o g Q T :=
  xo_36 [some (.ref 3), some (.int x1), some (.int x2)] r hp ⟨Nat.le_add_left 3 _, Nat.le_of_ble_eq_true hs, Nat.le_of_ble_eq_true rfl, (rv_3 _)⟩ rfl rfl hh H
theorem hd_81 : am_hd 81 = [] := rfl
theorem cr_3_7 : am_fR am_C0 3 3 7 8 := am_fR.lit rfl
theorem ca_8 : am_aI am_C0 8 0 5 := am_aI.lit rfl rfl
theorem cr_3_11 : am_fR am_C0 3 3 11 12 := am_fR.lit rfl
theorem ca_12 : am_aI am_C0 12 0 4 := am_aI.lit rfl rfl
theorem hd_114 : am_hd 114 = [] := rfl
theorem cl_58_0 {x1 : Int32} (hp : am_P mi pc = some (36, 58, 2, c, v)) (hh : am_hd mi = []) (hs : Nat.ble ((r.map fun w => w.category).sum) 8 = true) (H : am_X L xs d 58 0 [some (.ref 0), some (.int x1)] [] am_C0 h o g (fun w h' o' g' => am_X L xs (d + 1) mi c lv (w.toList ++ r) am_C0 h' o' g' Q T) T) : am_X L xs (d + 1) mi pc lv (.int x1 :: .ref 0 :: r) am_C0 h o g Q T :=
  xo_36 [some (.ref 0), some (.int x1)] r hp ⟨Nat.le_add_left 2 _, Nat.le_of_ble_eq_true hs, Nat.le_of_ble_eq_true rfl, (rv_0 _)⟩ rfl rfl hh H
theorem cl_75_0 {x1 : Int32} (hp : am_P mi pc = some (36, 75, 2, c, v)) (hh : am_hd mi = []) (hs : Nat.ble ((r.map fun w => w.category).sum) 8 = true) (H : am_X L xs d 75 0 [some (.ref 0), some (.int x1)] [] am_C0 h o g (fun w h' o' g' => am_X L xs (d + 1) mi c lv (w.toList ++ r) am_C0 h' o' g' Q T) T) : am_X L xs (d + 1) mi pc lv (.int x1 :: .ref 0 :: r) am_C0 h o g Q T :=
  xo_36 [some (.ref 0), some (.int x1)] r hp ⟨Nat.le_add_left 2 _, Nat.le_of_ble_eq_true hs, Nat.le_of_ble_eq_true rfl, (rv_0 _)⟩ rfl rfl hh H
theorem cl_46_0 {x1 : Int32} (hp : am_P mi pc = some (36, 46, 2, c, v)) (hh : am_hd mi = []) (hs : Nat.ble ((r.map fun w => w.category).sum) 8 = true) (H : am_X L xs d 46 0 [some (.ref 0), some (.int x1)] [] am_C0 h o g (fun w h' o' g' => am_X L xs (d + 1) mi c lv (w.toList ++ r) am_C0 h' o' g' Q T) T) : am_X L xs (d + 1) mi pc lv (.int x1 :: .ref 0 :: r) am_C0 h o g Q T :=
  xo_36 [some (.ref 0), some (.int x1)] r hp ⟨Nat.le_add_left 2 _, Nat.le_of_ble_eq_true hs, Nat.le_of_ble_eq_true rfl, (rv_0 _)⟩ rfl rfl hh H
theorem cl_115_61 {x1 : Int32} (hp : am_P mi pc = some (36, 115, 2, c, v)) (hh : am_hd mi = []) (hs : Nat.ble ((r.map fun w => w.category).sum) 8 = true) (H : am_X L xs d 115 0 [some (.ref 61), some (.int x1)] [] am_C0 h o g (fun w h' o' g' => am_X L xs (d + 1) mi c lv (w.toList ++ r) am_C0 h' o' g' Q T) T) : am_X L xs (d + 1) mi pc lv (.int x1 :: .ref 61 :: r) am_C0 h o g Q T :=
  xo_36 [some (.ref 61), some (.int x1)] r hp ⟨Nat.le_add_left 2 _, Nat.le_of_ble_eq_true hs, Nat.le_of_ble_eq_true rfl, (rv_61 _)⟩ rfl rfl hh H
theorem cr_23_7 : am_fR am_C0 23 0 7 30 := am_fR.lit rfl
theorem ca_30 : am_aI am_C0 30 0 5 := am_aI.lit rfl rfl
theorem cl_116_0 {x1 : Int32} {x2 : Int32} {x3 : Int32} {x4 : Int32} {x5 : Int32} (hp : am_P mi pc = some (36, 116, 6, c, v)) (hh : am_hd mi = []) (hs : Nat.ble ((r.map fun w => w.category).sum) 8 = true) (H : am_X L xs d 116 0 [some (.ref 0), some (.int x1), some (.int x2), some (.int x3), some (.int x4), some (.int x5), none, none, none] [] am_C0 h o g (fun w h' o' g' => am_X L xs (d + 1) mi c lv (w.toList ++ r) am_C0 h' o' g' Q T) T) : am_X L xs (d + 1) mi pc lv (.int x5 :: .int x4 :: .int x3 :: .int x2 :: .int x1 :: .ref 0 :: r) am_C0 h o g Q T :=
  xo_36 [some (.ref 0), some (.int x1), some (.int x2), some (.int x3), some (.int x4), some (.int x5), none, none, none] r hp ⟨Nat.le_add_left 6 _, Nat.le_of_ble_eq_true hs, Nat.le_of_ble_eq_true rfl, (rv_0 _)⟩ rfl rfl hh H
theorem cl_120_0 {x1 : Int32} (hp : am_P mi pc = some (36, 120, 2, c, v)) (hh : am_hd mi = []) (hs : Nat.ble ((r.map fun w => w.category).sum) 8 = true) (H : am_X L xs d 120 0 [some (.ref 0), some (.int x1)] [] am_C0 h o g (fun w h' o' g' => am_X L xs (d + 1) mi c lv (w.toList ++ r) am_C0 h' o' g' Q T) T) : am_X L xs (d + 1) mi pc lv (.int x1 :: .ref 0 :: r) am_C0 h o g Q T :=
  xo_36 [some (.ref 0), some (.int x1)] r hp ⟨Nat.le_add_left 2 _, Nat.le_of_ble_eq_true hs, Nat.le_of_ble_eq_true rfl, (rv_0 _)⟩ rfl rfl hh H
theorem hd_119 : am_hd 119 = [] := rfl
theorem cl_38_23 {x1 : Int32} (hp : am_P mi pc = some (36, 38, 2, c, v)) (hh : am_hd mi = []) (hs : Nat.ble ((r.map fun w => w.category).sum) 8 = true) (H : am_X L xs d 38 0 [some (.ref 23), some (.int x1)] [] am_C0 h o g (fun w h' o' g' => am_X L xs (d + 1) mi c lv (w.toList ++ r) am_C0 h' o' g' Q T) T) : am_X L xs (d + 1) mi pc lv (.int x1 :: .ref 23 :: r) am_C0 h o g Q T :=
  xo_36 [some (.ref 23), some (.int x1)] r hp ⟨Nat.le_add_left 2 _, Nat.le_of_ble_eq_true hs, Nat.le_of_ble_eq_true rfl, (rv_23 _)⟩ rfl rfl hh H
theorem cr_23_10 : am_fR am_C0 23 0 10 33 := am_fR.lit rfl
theorem ca_33 : am_aI am_C0 33 0 3 := am_aI.lit rfl rfl
theorem cr_23_8 : am_fR am_C0 23 0 8 31 := am_fR.lit rfl
theorem ca_31 : am_aI am_C0 31 0 5 := am_aI.lit rfl rfl
theorem cr_23_9 : am_fR am_C0 23 0 9 32 := am_fR.lit rfl
theorem ca_32 : am_aI am_C0 32 0 5 := am_aI.lit rfl rfl
theorem cr_0_7 : am_fR am_C0 0 6 7 59 := am_fR.lit rfl
theorem rv_59 (as : List Value) : am_recv 1 (.ref 59 :: as) am_C0 = true := rfl
theorem cl_123_59 {x1 : Int32} (hp : am_P mi pc = some (36, 123, 2, c, v)) (hh : am_hd mi = []) (hs : Nat.ble ((r.map fun w => w.category).sum) 8 = true) (H : am_X L xs d 123 0 [some (.ref 59), some (.int x1), none] [] am_C0 h o g (fun w h' o' g' => am_X L xs (d + 1) mi c lv (w.toList ++ r) am_C0 h' o' g' Q T) T) : am_X L xs (d + 1) mi pc lv (.int x1 :: .ref 59 :: r) am_C0 h o g Q T :=
  xo_36 [some (.ref 59), some (.int x1), none] r hp ⟨Nat.le_add_left 2 _, Nat.le_of_ble_eq_true hs, Nat.le_of_ble_eq_true rfl, (rv_59 _)⟩ rfl rfl hh H
theorem hd_122 : am_hd 122 = [] := rfl
theorem cf_59_0 : am_fI am_C0 59 1 0 := am_fI.lit rfl
theorem cr_59_1 : am_fR am_C0 59 1 1 60 := am_fR.lit rfl
theorem ca_60 : am_aI am_C0 60 0 5 := am_aI.lit rfl rfl
theorem cl_126_59 (hp : am_P mi pc = some (36, 126, 1, c, v)) (hh : am_hd mi = []) (hs : Nat.ble ((r.map fun w => w.category).sum) 8 = true) (H : am_X L xs d 126 0 [some (.ref 59)] [] am_C0 h o g (fun w h' o' g' => am_X L xs (d + 1) mi c lv (w.toList ++ r) am_C0 h' o' g' Q T) T) : am_X L xs (d + 1) mi pc lv (.ref 59 :: r) am_C0 h o g Q T :=
  xo_36 [some (.ref 59)] r hp ⟨Nat.le_add_left 1 _, Nat.le_of_ble_eq_true hs, Nat.le_of_ble_eq_true rfl, (rv_59 _)⟩ rfl rfl hh H
theorem cl_128_59 {x1 : Int32} (hp : am_P mi pc = some (36, 128, 2, c, v)) (hh : am_hd mi = []) (hs : Nat.ble ((r.map fun w => w.category).sum) 8 = true) (H : am_X L xs d 128 0 [some (.ref 59), some (.int x1), none, none, none] [] am_C0 h o g (fun w h' o' g' => am_X L xs (d + 1) mi c lv (w.toList ++ r) am_C0 h' o' g' Q T) T) : am_X L xs (d + 1) mi pc lv (.int x1 :: .ref 59 :: r) am_C0 h o g Q T :=
  xo_36 [some (.ref 59), some (.int x1), none, none, none] r hp ⟨Nat.le_add_left 2 _, Nat.le_of_ble_eq_true hs, Nat.le_of_ble_eq_true rfl, (rv_59 _)⟩ rfl rfl hh H
theorem cl_124_61 {x1 : Int32} {x2 : Int32} (hp : am_P mi pc = some (36, 124, 3, c, v)) (hh : am_hd mi = []) (hs : Nat.ble ((r.map fun w => w.category).sum) 8 = true) (H : am_X L xs d 124 0 [some (.ref 61), some (.int x1), some (.int x2)] [] am_C0 h o g (fun w h' o' g' => am_X L xs (d + 1) mi c lv (w.toList ++ r) am_C0 h' o' g' Q T) T) : am_X L xs (d + 1) mi pc lv (.int x2 :: .int x1 :: .ref 61 :: r) am_C0 h o g Q T :=
  xo_36 [some (.ref 61), some (.int x1), some (.int x2)] r hp ⟨Nat.le_add_left 3 _, Nat.le_of_ble_eq_true hs, Nat.le_of_ble_eq_true rfl, (rv_61 _)⟩ rfl rfl hh H
theorem cl_125_59 {x1 : Int32} {x2 : Int32} (hp : am_P mi pc = some (36, 125, 3, c, v)) (hh : am_hd mi = []) (hs : Nat.ble ((r.map fun w => w.category).sum) 8 = true) (H : am_X L xs d 125 0 [some (.ref 59), some (.int x1), some (.int x2)] [] am_C0 h o g (fun w h' o' g' => am_X L xs (d + 1) mi c lv (w.toList ++ r) am_C0 h' o' g' Q T) T) : am_X L xs (d + 1) mi pc lv (.int x2 :: .int x1 :: .ref 59 :: r) am_C0 h o g Q T :=
  xo_36 [some (.ref 59), some (.int x1), some (.int x2)] r hp ⟨Nat.le_add_left 3 _, Nat.le_of_ble_eq_true hs, Nat.le_of_ble_eq_true rfl, (rv_59 _)⟩ rfl rfl hh H
theorem cl_135_64 {x1 : Int32} (hp : am_P mi pc = some (36, 135, 2, c, v)) (hh : am_hd mi = []) (hs : Nat.ble ((r.map fun w => w.category).sum) 8 = true) (H : am_X L xs d 135 0 [some (.ref 64), some (.int x1)] [] am_C0 h o g (fun w h' o' g' => am_X L xs (d + 1) mi c lv (w.toList ++ r) am_C0 h' o' g' Q T) T) : am_X L xs (d + 1) mi pc lv (.int x1 :: .ref 64 :: r) am_C0 h o g Q T :=
  xo_36 [some (.ref 64), some (.int x1)] r hp ⟨Nat.le_add_left 2 _, Nat.le_of_ble_eq_true hs, Nat.le_of_ble_eq_true rfl, (rv_64 _)⟩ rfl rfl hh H
theorem hd_134 : am_hd 134 = [] := rfl
theorem cf_64_23 : am_fI am_C0 64 7 23 := am_fI.lit rfl
theorem cf_64_24 : am_fI am_C0 64 7 24 := am_fI.lit rfl
theorem cl_136 {x0 : Int32} (hp : am_P mi pc = some (36, 136, 1, c, v)) (hh : am_hd mi = []) (hs : Nat.ble ((r.map fun w => w.category).sum) 8 = true) (H : am_X L xs d 136 0 [some (.int x0)] [] am_C0 h o g (fun w h' o' g' => am_X L xs (d + 1) mi c lv (w.toList ++ r) am_C0 h' o' g' Q T) T) : am_X L xs (d + 1) mi pc lv (.int x0 :: r) am_C0 h o g Q T :=
  xo_36 [some (.int x0)] r hp ⟨Nat.le_add_left 1 _, Nat.le_of_ble_eq_true hs, Nat.le_of_ble_eq_true rfl, rfl⟩ rfl rfl hh H
theorem cl_137 {x0 : Int32} (hp : am_P mi pc = some (36, 137, 1, c, v)) (hh : am_hd mi = []) (hs : Nat.ble ((r.map fun w => w.category).sum) 8 = true) (H : am_X L xs d 137 0 [some (.int x0)] [] am_C0 h o g (fun w h' o' g' => am_X L xs (d + 1) mi c lv (w.toList ++ r) am_C0 h' o' g' Q T) T) : am_X L xs (d + 1) mi pc lv (.int x0 :: r) am_C0 h o g Q T :=
  xo_36 [some (.int x0)] r hp ⟨Nat.le_add_left 1 _, Nat.le_of_ble_eq_true hs, Nat.le_of_ble_eq_true rfl, rfl⟩ rfl rfl hh H
theorem cf_64_22 : am_fI am_C0 64 7 22 := am_fI.lit rfl
theorem cr_64_0 : am_fR am_C0 64 7 0 65 := am_fR.lit rfl
theorem cl_139_64_65 (hp : am_P mi pc = some (36, 139, 2, c, v)) (hh : am_hd mi = []) (hs : Nat.ble ((r.map fun w => w.category).sum) 8 = true) (H : am_X L xs d 139 0 [some (.ref 64), some (.ref 65), none] [] am_C0 h o g (fun w h' o' g' => am_X L xs (d + 1) mi c lv (w.toList ++ r) am_C0 h' o' g' Q T) T) : am_X L xs (d + 1) mi pc lv (.ref 65 :: .ref 64 :: r) am_C0 h o g Q T :=
  xo_36 [some (.ref 64), some (.ref 65), none] r hp ⟨Nat.le_add_left 2 _, Nat.le_of_ble_eq_true hs, Nat.le_of_ble_eq_true rfl, (rv_64 _)⟩ rfl rfl hh H
theorem hd_138 : am_hd 138 = [] := rfl
theorem cr_64_1 : am_fR am_C0 64 7 1 66 := am_fR.lit rfl
theorem cl_139_64_66 (hp : am_P mi pc = some (36, 139, 2, c, v)) (hh : am_hd mi = []) (hs : Nat.ble ((r.map fun w => w.category).sum) 8 = true) (H : am_X L xs d 139 0 [some (.ref 64), some (.ref 66), none] [] am_C0 h o g (fun w h' o' g' => am_X L xs (d + 1) mi c lv (w.toList ++ r) am_C0 h' o' g' Q T) T) : am_X L xs (d + 1) mi pc lv (.ref 66 :: .ref 64 :: r) am_C0 h o g Q T :=
  xo_36 [some (.ref 64), some (.ref 66), none] r hp ⟨Nat.le_add_left 2 _, Nat.le_of_ble_eq_true hs, Nat.le_of_ble_eq_true rfl, (rv_64 _)⟩ rfl rfl hh H
theorem cl_140_s {ws : Nat} (hp : am_P mi pc = some (36, 140, 2, c, v)) (hh : am_hd mi = []) (hs : Nat.ble ((r.map fun w => w.category).sum) 8 = true) (H : am_X L xs d 140 0 [some (.ref 64), some (.ref ws), none, none] [] am_C0 h o g (fun w h' o' g' => am_X L xs (d + 1) mi c lv (w.toList ++ r) am_C0 h' o' g' Q T) T) : am_X L xs (d + 1) mi pc lv (.ref ws :: .ref 64 :: r) am_C0 h o g Q T :=
  xo_36 [some (.ref 64), some (.ref ws), none, none] r hp ⟨Nat.le_add_left 2 _, Nat.le_of_ble_eq_true hs, Nat.le_of_ble_eq_true rfl, (rv_64 _)⟩ rfl rfl hh H
theorem cl_141_64 (hp : am_P mi pc = some (36, 141, 1, c, v)) (hh : am_hd mi = []) (hs : Nat.ble ((r.map fun w => w.category).sum) 8 = true) (H : am_X L xs d 141 0 [some (.ref 64), none] [] am_C0 h o g (fun w h' o' g' => am_X L xs (d + 1) mi c lv (w.toList ++ r) am_C0 h' o' g' Q T) T) : am_X L xs (d + 1) mi pc lv (.ref 64 :: r) am_C0 h o g Q T :=
  xo_36 [some (.ref 64), none] r hp ⟨Nat.le_add_left 1 _, Nat.le_of_ble_eq_true hs, Nat.le_of_ble_eq_true rfl, (rv_64 _)⟩ rfl rfl hh H
theorem cl_143_64 {x1 : Int32} (hp : am_P mi pc = some (36, 143, 2, c, v)) (hh : am_hd mi = []) (hs : Nat.ble ((r.map fun w => w.category).sum) 8 = true) (H : am_X L xs d 143 0 [some (.ref 64), some (.int x1)] [] am_C0 h o g (fun w h' o' g' => am_X L xs (d + 1) mi c lv (w.toList ++ r) am_C0 h' o' g' Q T) T) : am_X L xs (d + 1) mi pc lv (.int x1 :: .ref 64 :: r) am_C0 h o g Q T :=
  xo_36 [some (.ref 64), some (.int x1)] r hp ⟨Nat.le_add_left 2 _, Nat.le_of_ble_eq_true hs, Nat.le_of_ble_eq_true rfl, (rv_64 _)⟩ rfl rfl hh H
theorem cl_144_64 {x1 : Int32} {x2 : Int32} (hp : am_P mi pc = some (36, 144, 3, c, v)) (hh : am_hd mi = []) (hs : Nat.ble ((r.map fun w => w.category).sum) 8 = true) (H : am_X L xs d 144 0 [some (.ref 64), some (.int x1), some (.int x2), none] [] am_C0 h o g (fun w h' o' g' => am_X L xs (d + 1) mi c lv (w.toList ++ r) am_C0 h' o' g' Q T) T) : am_X L xs (d + 1) mi pc lv (.int x2 :: .int x1 :: .ref 64 :: r) am_C0 h o g Q T :=
  xo_36 [some (.ref 64), some (.int x1), some (.int x2), none] r hp ⟨Nat.le_add_left 3 _, Nat.le_of_ble_eq_true hs, Nat.le_of_ble_eq_true rfl, (rv_64 _)⟩ rfl rfl hh H
theorem cr_64_2 : am_fR am_C0 64 7 2 67 := am_fR.lit rfl
theorem ca_67 : am_aI am_C0 67 0 4 := am_aI.lit rfl rfl
theorem cl_146_64 {x1 : Int32} (hp : am_P mi pc = some (36, 146, 2, c, v)) (hh : am_hd mi = []) (hs : Nat.ble ((r.map fun w => w.category).sum) 8 = true) (H : am_X L xs d 146 0 [some (.ref 64), some (.int x1), none] [] am_C0 h o g (fun w h' o' g' => am_X L xs (d + 1) mi c lv (w.toList ++ r) am_C0 h' o' g' Q T) T) : am_X L xs (d + 1) mi pc lv (.int x1 :: .ref 64 :: r) am_C0 h o g Q T :=
  xo_36 [some (.ref 64), some (.int x1), none] r hp ⟨Nat.le_add_left 2 _, Nat.le_of_ble_eq_true hs, Nat.le_of_ble_eq_true rfl, (rv_64 _)⟩ rfl rfl hh H
theorem cl_142_64 {x1 : Int32} {x2 : Int32} (hp : am_P mi pc = some (36, 142, 3, c, v)) (hh : am_hd mi = []) (hs : Nat.ble ((r.map fun w => w.category).sum) 8 = true) (H : am_X L xs d 142 0 [some (.ref 64), some (.int x1), some (.int x2)] [] am_C0 h o g (fun w h' o' g' => am_X L xs (d + 1) mi c lv (w.toList ++ r) am_C0 h' o' g' Q T) T) : am_X L xs (d + 1) mi pc lv (.int x2 :: .int x1 :: .ref 64 :: r) am_C0 h o g Q T :=
  xo_36 [some (.ref 64), some (.int x1), some (.int x2)] r hp ⟨Nat.le_add_left 3 _, Nat.le_of_ble_eq_true hs, Nat.le_of_ble_eq_true rfl, (rv_64 _)⟩ rfl rfl hh H
theorem cl_16_23_61 {x1 : Int32} {x2 : Int32} (hp : am_P mi pc = some (36, 16, 4, c, v)) (hh : am_hd mi = []) (hs : Nat.ble ((r.map fun w => w.category).sum) 8 = true) (H : am_X L xs d 16 0 [some (.ref 23), some (.int x1), some (.int x2), some (.ref 61), none, none] [] am_C0 h o g (fun w h' o' g' => am_X L xs (d + 1) mi c lv (w.toList ++ r) am_C0 h' o' g' Q T) T) : am_X L xs (d + 1) mi pc lv (.ref 61 :: .int x2 :: .int x1 :: .ref 23 :: r) am_C0 h o g Q T :=
  xo_36 [some (.ref 23), some (.int x1), some (.int x2), some (.ref 61), none, none] r hp ⟨Nat.le_add_left 4 _, Nat.le_of_ble_eq_true hs, Nat.le_of_ble_eq_true rfl, (rv_23 _)⟩ rfl rfl hh H
theorem hd_15 : am_hd 15 = [] := rfl
theorem cl_154_64 {x1 : Int32} (hp : am_P mi pc = some (36, 154, 2, c, v)) (hh : am_hd mi = []) (hs : Nat.ble ((r.map fun w => w.category).sum) 8 = true) (H : am_X L xs d 154 0 [some (.ref 64), some (.int x1)] [] am_C0 h o g (fun w h' o' g' => am_X L xs (d + 1) mi c lv (w.toList ++ r) am_C0 h' o' g' Q T) T) : am_X L xs (d + 1) mi pc lv (.int x1 :: .ref 64 :: r) am_C0 h o g Q T :=
  xo_36 [some (.ref 64), some (.int x1)] r hp ⟨Nat.le_add_left 2 _, Nat.le_of_ble_eq_true hs, Nat.le_of_ble_eq_true rfl, (rv_64 _)⟩ rfl rfl hh H
theorem hd_153 : am_hd 153 = [] := rfl
theorem hd_172 : am_hd 172 = [] := rfl
theorem hd_175 : am_hd 175 = [] := rfl
theorem hd_177 : am_hd 177 = [] := rfl
theorem hd_179 : am_hd 179 = [] := rfl
theorem hd_181 : am_hd 181 = [] := rfl
theorem cl_182_64 {x1 : Int32} {x2 : Int32} (hp : am_P mi pc = some (36, 182, 3, c, v)) (hh : am_hd mi = []) (hs : Nat.ble ((r.map fun w => w.category).sum) 8 = true) (H : am_X L xs d 182 0 [some (.ref 64), some (.int x1), some (.int x2), none, none] [] am_C0 h o g (fun w h' o' g' => am_X L xs (d + 1) mi c lv (w.toList ++ r) am_C0 h' o' g' Q T) T) : am_X L xs (d + 1) mi pc lv (.int x2 :: .int x1 :: .ref 64 :: r) am_C0 h o g Q T :=
  xo_36 [some (.ref 64), some (.int x1), some (.int x2), none, none] r hp ⟨Nat.le_add_left 3 _, Nat.le_of_ble_eq_true hs, Nat.le_of_ble_eq_true rfl, (rv_64 _)⟩ rfl rfl hh H
theorem cf_64_44 : am_fI am_C0 64 7 44 := am_fI.lit rfl
theorem cl_185_64 {x1 : Int32} {x2 : Int32} (hp : am_P mi pc = some (36, 185, 3, c, v)) (hh : am_hd mi = []) (hs : Nat.ble ((r.map fun w => w.category).sum) 8 = true) (H : am_X L xs d 185 0 [some (.ref 64), some (.int x1), some (.int x2), none] [] am_C0 h o g (fun w h' o' g' => am_X L xs (d + 1) mi c lv (w.toList ++ r) am_C0 h' o' g' Q T) T) : am_X L xs (d + 1) mi pc lv (.int x2 :: .int x1 :: .ref 64 :: r) am_C0 h o g Q T :=
  xo_36 [some (.ref 64), some (.int x1), some (.int x2), none] r hp ⟨Nat.le_add_left 3 _, Nat.le_of_ble_eq_true hs, Nat.le_of_ble_eq_true rfl, (rv_64 _)⟩ rfl rfl hh H
theorem hd_184 : am_hd 184 = [] := rfl
theorem hd_193 : am_hd 193 = [] := rfl
theorem cr_64_48 : am_fR am_C0 64 7 48 97 := am_fR.lit rfl
theorem ca_97 : am_aI am_C0 97 0 5 := am_aI.lit rfl rfl
theorem hd_201 : am_hd 201 = [] := rfl
theorem ca_100 : am_aI am_C0 100 0 80 := am_aI.lit rfl rfl
theorem ca_101 : am_aI am_C0 101 0 80 := am_aI.lit rfl rfl
theorem ca_102 : am_aI am_C0 102 0 80 := am_aI.lit rfl rfl
theorem ca_103 : am_aI am_C0 103 0 5 := am_aI.lit rfl rfl
theorem ca_104 : am_aI am_C0 104 0 5 := am_aI.lit rfl rfl
theorem ca_105 : am_aI am_C0 105 0 5 := am_aI.lit rfl rfl
theorem ca_106 : am_aI am_C0 106 0 3 := am_aI.lit rfl rfl
theorem ca_98 : am_aI am_C0 98 0 80 := am_aI.lit rfl rfl
theorem ca_99 : am_aI am_C0 99 0 80 := am_aI.lit rfl rfl
theorem cf_34_0 : am_fI am_C0 34 0 0 := am_fI.lit rfl
theorem cr_23_1 : am_fR am_C0 23 0 1 24 := am_fR.lit rfl
theorem cr_34_1 : am_fR am_C0 34 0 1 35 := am_fR.lit rfl
theorem ca_35 : am_aI am_C0 35 0 80 := am_aI.lit rfl rfl
theorem ca_24 : am_aI am_C0 24 0 80 := am_aI.lit rfl rfl
theorem cr_23_2 : am_fR am_C0 23 0 2 25 := am_fR.lit rfl
theorem cr_34_2 : am_fR am_C0 34 0 2 36 := am_fR.lit rfl
theorem ca_36 : am_aI am_C0 36 0 80 := am_aI.lit rfl rfl
theorem ca_25 : am_aI am_C0 25 0 80 := am_aI.lit rfl rfl
theorem cr_23_3 : am_fR am_C0 23 0 3 26 := am_fR.lit rfl
theorem cr_34_3 : am_fR am_C0 34 0 3 37 := am_fR.lit rfl
theorem ca_37 : am_aI am_C0 37 0 80 := am_aI.lit rfl rfl
theorem ca_26 : am_aI am_C0 26 0 80 := am_aI.lit rfl rfl
theorem cr_23_4 : am_fR am_C0 23 0 4 27 := am_fR.lit rfl
theorem cr_34_4 : am_fR am_C0 34 0 4 38 := am_fR.lit rfl
theorem ca_38 : am_aI am_C0 38 0 80 := am_aI.lit rfl rfl
theorem ca_27 : am_aI am_C0 27 0 80 := am_aI.lit rfl rfl
theorem cr_23_5 : am_fR am_C0 23 0 5 28 := am_fR.lit rfl
theorem cr_34_5 : am_fR am_C0 34 0 5 39 := am_fR.lit rfl
theorem ca_39 : am_aI am_C0 39 2 80 := am_aI.lit rfl rfl
theorem ca_28 : am_aI am_C0 28 2 80 := am_aI.lit rfl rfl
theorem cr_23_6 : am_fR am_C0 23 0 6 29 := am_fR.lit rfl
theorem cr_34_6 : am_fR am_C0 34 0 6 40 := am_fR.lit rfl
theorem ca_40 : am_aI am_C0 40 0 80 := am_aI.lit rfl rfl
theorem ca_29 : am_aI am_C0 29 0 80 := am_aI.lit rfl rfl
theorem cr_34_7 : am_fR am_C0 34 0 7 41 := am_fR.lit rfl
theorem ca_41 : am_aI am_C0 41 0 5 := am_aI.lit rfl rfl
theorem cr_34_8 : am_fR am_C0 34 0 8 42 := am_fR.lit rfl
theorem ca_42 : am_aI am_C0 42 0 5 := am_aI.lit rfl rfl
theorem cr_34_9 : am_fR am_C0 34 0 9 43 := am_fR.lit rfl
theorem ca_43 : am_aI am_C0 43 0 5 := am_aI.lit rfl rfl
theorem cr_34_10 : am_fR am_C0 34 0 10 44 := am_fR.lit rfl
theorem ca_44 : am_aI am_C0 44 0 3 := am_aI.lit rfl rfl
theorem cr_0_2 : am_fR am_C0 0 6 2 13 := am_fR.lit rfl
theorem cl_25_1_13 {x2 : Int32} (hp : am_P mi pc = some (36, 25, 3, c, v)) (hh : am_hd mi = []) (hs : Nat.ble ((r.map fun w => w.category).sum) 8 = true) (H : am_X L xs d 25 0 [some (.ref 1), some (.ref 13), some (.int x2), none] [] am_C0 h o g (fun w h' o' g' => am_X L xs (d + 1) mi c lv (w.toList ++ r) am_C0 h' o' g' Q T) T) : am_X L xs (d + 1) mi pc lv (.int x2 :: .ref 13 :: .ref 1 :: r) am_C0 h o g Q T :=
  xo_36 [some (.ref 1), some (.ref 13), some (.int x2), none] r hp ⟨Nat.le_add_left 3 _, Nat.le_of_ble_eq_true hs, Nat.le_of_ble_eq_true rfl, (rv_1 _)⟩ rfl rfl hh H
theorem hd_24 : am_hd 24 = [] := rfl
theorem cl_39_3_13 (hp : am_P mi pc = some (36, 39, 2, c, v)) (hh : am_hd mi = []) (hs : Nat.ble ((r.map fun w => w.category).sum) 8 = true) (H : am_X L xs d 39 0 [some (.ref 3), some (.ref 13)] [] am_C0 h o g (fun w h' o' g' => am_X L xs (d + 1) mi c lv (w.toList ++ r) am_C0 h' o' g' Q T) T) : am_X L xs (d + 1) mi pc lv (.ref 13 :: .ref 3 :: r) am_C0 h o g Q T :=
  xo_36 [some (.ref 3), some (.ref 13)] r hp ⟨Nat.le_add_left 2 _, Nat.le_of_ble_eq_true hs, Nat.le_of_ble_eq_true rfl, (rv_3 _)⟩ rfl rfl hh H
theorem cf_13_0 : am_fI am_C0 13 3 0 := am_fI.lit rfl
theorem cf_13_1 : am_fI am_C0 13 3 1 := am_fI.lit rfl
theorem cf_13_2 : am_fI am_C0 13 3 2 := am_fI.lit rfl
theorem cr_13_3 : am_fR am_C0 13 3 3 14 := am_fR.lit rfl
theorem cr_3_3 : am_fR am_C0 3 3 3 4 := am_fR.lit rfl
theorem ca_14 : am_aI am_C0 14 0 5 := am_aI.lit rfl rfl
theorem ca_4 : am_aI am_C0 4 0 5 := am_aI.lit rfl rfl
theorem cr_13_4 : am_fR am_C0 13 3 4 15 := am_fR.lit rfl
theorem cr_3_4 : am_fR am_C0 3 3 4 5 := am_fR.lit rfl
theorem ca_15 : am_aI am_C0 15 0 5 := am_aI.lit rfl rfl
theorem ca_5 : am_aI am_C0 5 0 5 := am_aI.lit rfl rfl
theorem cr_13_5 : am_fR am_C0 13 3 5 16 := am_fR.lit rfl
theorem ca_16 : am_aI am_C0 16 0 5 := am_aI.lit rfl rfl
theorem cr_13_6 : am_fR am_C0 13 3 6 17 := am_fR.lit rfl
theorem ca_17 : am_aI am_C0 17 0 5 := am_aI.lit rfl rfl
theorem cr_13_7 : am_fR am_C0 13 3 7 18 := am_fR.lit rfl
theorem ca_18 : am_aI am_C0 18 0 5 := am_aI.lit rfl rfl
theorem cr_13_8 : am_fR am_C0 13 3 8 19 := am_fR.lit rfl
theorem cr_3_8 : am_fR am_C0 3 3 8 9 := am_fR.lit rfl
theorem ca_19 : am_aI am_C0 19 0 5 := am_aI.lit rfl rfl
theorem ca_9 : am_aI am_C0 9 0 5 := am_aI.lit rfl rfl
theorem cr_13_9 : am_fR am_C0 13 3 9 20 := am_fR.lit rfl
theorem cr_3_9 : am_fR am_C0 3 3 9 10 := am_fR.lit rfl
theorem ca_20 : am_aI am_C0 20 0 5 := am_aI.lit rfl rfl
theorem ca_10 : am_aI am_C0 10 0 5 := am_aI.lit rfl rfl
theorem cr_13_10 : am_fR am_C0 13 3 10 21 := am_fR.lit rfl
theorem cr_3_10 : am_fR am_C0 3 3 10 11 := am_fR.lit rfl
theorem ca_21 : am_aI am_C0 21 0 5 := am_aI.lit rfl rfl
theorem ca_11 : am_aI am_C0 11 0 5 := am_aI.lit rfl rfl
theorem cr_13_11 : am_fR am_C0 13 3 11 22 := am_fR.lit rfl
theorem ca_22 : am_aI am_C0 22 0 4 := am_aI.lit rfl rfl
theorem cl_40_23 (hp : am_P mi pc = some (36, 40, 1, c, v)) (hh : am_hd mi = []) (hs : Nat.ble ((r.map fun w => w.category).sum) 8 = true) (H : am_X L xs d 40 0 [some (.ref 23), none] [] am_C0 h o g (fun w h' o' g' => am_X L xs (d + 1) mi c lv (w.toList ++ r) am_C0 h' o' g' Q T) T) : am_X L xs (d + 1) mi pc lv (.ref 23 :: r) am_C0 h o g Q T :=
  xo_36 [some (.ref 23), none] r hp ⟨Nat.le_add_left 1 _, Nat.le_of_ble_eq_true hs, Nat.le_of_ble_eq_true rfl, (rv_23 _)⟩ rfl rfl hh H
theorem cf_0_11 : am_fI am_C0 0 6 11 := am_fI.lit rfl
theorem hd_44 : am_hd 44 = [] := rfl
theorem hd_49 : am_hd 49 = [] := rfl
theorem cl_52_23 {x1 : Int32} {x2 : Int32} {x3 : Int32} (hp : am_P mi pc = some (36, 52, 4, c, v)) (hh : am_hd mi = []) (hs : Nat.ble ((r.map fun w => w.category).sum) 8 = true) (H : am_X L xs d 52 0 [some (.ref 23), some (.int x1), some (.int x2), some (.int x3)] [] am_C0 h o g (fun w h' o' g' => am_X L xs (d + 1) mi c lv (w.toList ++ r) am_C0 h' o' g' Q T) T) : am_X L xs (d + 1) mi pc lv (.int x3 :: .int x2 :: .int x1 :: .ref 23 :: r) am_C0 h o g Q T :=
  xo_36 [some (.ref 23), some (.int x1), some (.int x2), some (.int x3)] r hp ⟨Nat.le_add_left 4 _, Nat.le_of_ble_eq_true hs, Nat.le_of_ble_eq_true rfl, (rv_23 _)⟩ rfl rfl hh H
theorem cl_53_23 {x1 : Int32} {x2 : Int32} (hp : am_P mi pc = some (36, 53, 3, c, v)) (hh : am_hd mi = []) (hs : Nat.ble ((r.map fun w => w.category).sum) 8 = true) (H : am_X L xs d 53 0 [some (.ref 23), some (.int x1), some (.int x2)] [] am_C0 h o g (fun w h' o' g' => am_X L xs (d + 1) mi c lv (w.toList ++ r) am_C0 h' o' g' Q T) T) : am_X L xs (d + 1) mi pc lv (.int x2 :: .int x1 :: .ref 23 :: r) am_C0 h o g Q T :=
  xo_36 [some (.ref 23), some (.int x1), some (.int x2)] r hp ⟨Nat.le_add_left 3 _, Nat.le_of_ble_eq_true hs, Nat.le_of_ble_eq_true rfl, (rv_23 _)⟩ rfl rfl hh H
theorem hd_52 : am_hd 52 = [] := rfl
theorem cl_54_23 {x1 : Int32} {x2 : Int32} (hp : am_P mi pc = some (36, 54, 3, c, v)) (hh : am_hd mi = []) (hs : Nat.ble ((r.map fun w => w.category).sum) 8 = true) (H : am_X L xs d 54 0 [some (.ref 23), some (.int x1), some (.int x2)] [] am_C0 h o g (fun w h' o' g' => am_X L xs (d + 1) mi c lv (w.toList ++ r) am_C0 h' o' g' Q T) T) : am_X L xs (d + 1) mi pc lv (.int x2 :: .int x1 :: .ref 23 :: r) am_C0 h o g Q T :=
  xo_36 [some (.ref 23), some (.int x1), some (.int x2)] r hp ⟨Nat.le_add_left 3 _, Nat.le_of_ble_eq_true hs, Nat.le_of_ble_eq_true rfl, (rv_23 _)⟩ rfl rfl hh H
theorem hd_56 : am_hd 56 = [] := rfl
theorem cl_59_0 {x1 : Int32} (hp : am_P mi pc = some (36, 59, 2, c, v)) (hh : am_hd mi = []) (hs : Nat.ble ((r.map fun w => w.category).sum) 8 = true) (H : am_X L xs d 59 0 [some (.ref 0), some (.int x1)] [] am_C0 h o g (fun w h' o' g' => am_X L xs (d + 1) mi c lv (w.toList ++ r) am_C0 h' o' g' Q T) T) : am_X L xs (d + 1) mi pc lv (.int x1 :: .ref 0 :: r) am_C0 h o g Q T :=
  xo_36 [some (.ref 0), some (.int x1)] r hp ⟨Nat.le_add_left 2 _, Nat.le_of_ble_eq_true hs, Nat.le_of_ble_eq_true rfl, (rv_0 _)⟩ rfl rfl hh H
theorem hd_63 : am_hd 63 = [] := rfl
theorem hd_65 : am_hd 65 = [] := rfl
theorem cl_66_23 (hp : am_P mi pc = some (36, 66, 1, c, v)) (hh : am_hd mi = []) (hs : Nat.ble ((r.map fun w => w.category).sum) 8 = true) (H : am_X L xs d 66 0 [some (.ref 23)] [] am_C0 h o g (fun w h' o' g' => am_X L xs (d + 1) mi c lv (w.toList ++ r) am_C0 h' o' g' Q T) T) : am_X L xs (d + 1) mi pc lv (.ref 23 :: r) am_C0 h o g Q T :=
  xo_36 [some (.ref 23)] r hp ⟨Nat.le_add_left 1 _, Nat.le_of_ble_eq_true hs, Nat.le_of_ble_eq_true rfl, (rv_23 _)⟩ rfl rfl hh H
theorem cl_69_0 {x1 : Int32} {x2 : Int32} {x3 : Int32} (hp : am_P mi pc = some (36, 69, 4, c, v)) (hh : am_hd mi = []) (hs : Nat.ble ((r.map fun w => w.category).sum) 8 = true) (H : am_X L xs d 69 0 [some (.ref 0), some (.int x1), some (.int x2), some (.int x3), none] [] am_C0 h o g (fun w h' o' g' => am_X L xs (d + 1) mi c lv (w.toList ++ r) am_C0 h' o' g' Q T) T) : am_X L xs (d + 1) mi pc lv (.int x3 :: .int x2 :: .int x1 :: .ref 0 :: r) am_C0 h o g Q T :=
  xo_36 [some (.ref 0), some (.int x1), some (.int x2), some (.int x3), none] r hp ⟨Nat.le_add_left 4 _, Nat.le_of_ble_eq_true hs, Nat.le_of_ble_eq_true rfl, (rv_0 _)⟩ rfl rfl hh H
theorem cl_70_23 {x1 : Int32} {x2 : Int32} {x3 : Int32} {x4 : Int32} {x5 : Int32} {x6 : Int32} (hp : am_P mi pc = some (36, 70, 7, c, v)) (hh : am_hd mi = []) (hs : Nat.ble ((r.map fun w => w.category).sum) 8 = true) (H : am_X L xs d 70 0 [some (.ref 23), some (.int x1), some (.int x2), some (.int x3), some (.int x4), some (.int x5), some (.int x6)] [] am_C0 h o g (fun w h' o' g' => am_X L xs (d + 1) mi c lv (w.toList ++ r) am_C0 h' o' g' Q T) T) : am_X L xs (d + 1) mi pc lv (.int x6 :: .int x5 :: .int x4 :: .int x3 :: .int x2 :: .int x1 :: .ref 23 :: r) am_C0 h o g Q T :=
  xo_36 [some (.ref 23), some (.int x1), some (.int x2), some (.int x3), some (.int x4), some (.int x5), some (.int x6)] r hp ⟨Nat.le_add_left 7 _, Nat.le_of_ble_eq_true hs, Nat.le_of_ble_eq_true rfl, (rv_23 _)⟩ rfl rfl hh H
theorem hd_72 : am_hd 72 = [] := rfl
theorem hd_74 : am_hd 74 = [] := rfl
theorem cl_76_23_61 {x1 : Int32} {x2 : Int32} {x3 : Int32} {x4 : Int32} (hp : am_P mi pc = some (36, 76, 6, c, v)) (hh : am_hd mi = []) (hs : Nat.ble ((r.map fun w => w.category).sum) 8 = true) (H : am_X L xs d 76 0 [some (.ref 23), some (.int x1), some (.int x2), some (.int x3), some (.int x4), some (.ref 61), none] [] am_C0 h o g (fun w h' o' g' => am_X L xs (d + 1) mi c lv (w.toList ++ r) am_C0 h' o' g' Q T) T) : am_X L xs (d + 1) mi pc lv (.ref 61 :: .int x4 :: .int x3 :: .int x2 :: .int x1 :: .ref 23 :: r) am_C0 h o g Q T :=
  xo_36 [some (.ref 23), some (.int x1), some (.int x2), some (.int x3), some (.int x4), some (.ref 61), none] r hp ⟨Nat.le_add_left 6 _, Nat.le_of_ble_eq_true hs, Nat.le_of_ble_eq_true rfl, (rv_23 _)⟩ rfl rfl hh H
theorem cl_77_61 (hp : am_P mi pc = some (36, 77, 1, c, v)) (hh : am_hd mi = []) (hs : Nat.ble ((r.map fun w => w.category).sum) 8 = true) (H : am_X L xs d 77 0 [some (.ref 61)] [] am_C0 h o g (fun w h' o' g' => am_X L xs (d + 1) mi c lv (w.toList ++ r) am_C0 h' o' g' Q T) T) : am_X L xs (d + 1) mi pc lv (.ref 61 :: r) am_C0 h o g Q T :=
  xo_36 [some (.ref 61)] r hp ⟨Nat.le_add_left 1 _, Nat.le_of_ble_eq_true hs, Nat.le_of_ble_eq_true rfl, (rv_61 _)⟩ rfl rfl hh H
theorem hd_77 : am_hd 77 = [] := rfl
theorem hd_79 : am_hd 79 = [] := rfl
theorem hd_84 : am_hd 84 = [] := rfl
theorem cr_0_6 : am_fR am_C0 0 6 6 45 := am_fR.lit rfl
theorem rv_45 (as : List Value) : am_recv 2 (.ref 45 :: as) am_C0 = true := rfl
theorem cl_93_45 (hp : am_P mi pc = some (36, 93, 1, c, v)) (hh : am_hd mi = []) (hs : Nat.ble ((r.map fun w => w.category).sum) 8 = true) (H : am_X L xs d 93 0 [some (.ref 45), none, none, none] [] am_C0 h o g (fun w h' o' g' => am_X L xs (d + 1) mi c lv (w.toList ++ r) am_C0 h' o' g' Q T) T) : am_X L xs (d + 1) mi pc lv (.ref 45 :: r) am_C0 h o g Q T :=
  xo_36 [some (.ref 45), none, none, none] r hp ⟨Nat.le_add_left 1 _, Nat.le_of_ble_eq_true hs, Nat.le_of_ble_eq_true rfl, (rv_45 _)⟩ rfl rfl hh H
theorem cr_0_9 : am_fR am_C0 0 6 9 62 := am_fR.lit rfl
theorem cr_45_1 : am_fR am_C0 45 2 1 47 := am_fR.lit rfl
theorem ca_47 : am_aI am_C0 47 0 5 := am_aI.lit rfl rfl
theorem ca_62 : am_aI am_C0 62 0 5 := am_aI.lit rfl rfl
theorem cr_0_10 : am_fR am_C0 0 6 10 63 := am_fR.lit rfl
theorem ca_63 : am_aI am_C0 63 0 5 := am_aI.lit rfl rfl
theorem cr_45_2 : am_fR am_C0 45 2 2 48 := am_fR.lit rfl
theorem ca_48 : am_aI am_C0 48 0 5 := am_aI.lit rfl rfl
theorem hd_95 : am_hd 95 = [] := rfl
theorem hd_97 : am_hd 97 = [] := rfl
theorem cl_100_61 {x1 : Int32} (hp : am_P mi pc = some (36, 100, 2, c, v)) (hh : am_hd mi = []) (hs : Nat.ble ((r.map fun w => w.category).sum) 8 = true) (H : am_X L xs d 100 0 [some (.ref 61), some (.int x1)] [] am_C0 h o g (fun w h' o' g' => am_X L xs (d + 1) mi c lv (w.toList ++ r) am_C0 h' o' g' Q T) T) : am_X L xs (d + 1) mi pc lv (.int x1 :: .ref 61 :: r) am_C0 h o g Q T :=
  xo_36 [some (.ref 61), some (.int x1)] r hp ⟨Nat.le_add_left 2 _, Nat.le_of_ble_eq_true hs, Nat.le_of_ble_eq_true rfl, (rv_61 _)⟩ rfl rfl hh H
theorem hd_100 : am_hd 100 = [] := rfl
theorem cl_101 {x0 : Int32} {x1 : Int32} (hp : am_P mi pc = some (36, 101, 2, c, v)) (hh : am_hd mi = []) (hs : Nat.ble ((r.map fun w => w.category).sum) 8 = true) (H : am_X L xs d 101 0 [some (.int x0), some (.int x1), none, none, none, none] [] am_C0 h o g (fun w h' o' g' => am_X L xs (d + 1) mi c lv (w.toList ++ r) am_C0 h' o' g' Q T) T) : am_X L xs (d + 1) mi pc lv (.int x1 :: .int x0 :: r) am_C0 h o g Q T :=
  xo_36 [some (.int x0), some (.int x1), none, none, none, none] r hp ⟨Nat.le_add_left 2 _, Nat.le_of_ble_eq_true hs, Nat.le_of_ble_eq_true rfl, rfl⟩ rfl rfl hh H
theorem hd_104 : am_hd 104 = [] := rfl
theorem cl_105_45 {x1 : Int32} {x2 : Int32} (hp : am_P mi pc = some (36, 105, 3, c, v)) (hh : am_hd mi = []) (hs : Nat.ble ((r.map fun w => w.category).sum) 8 = true) (H : am_X L xs d 105 0 [some (.ref 45), some (.int x1), some (.int x2), none] [] am_C0 h o g (fun w h' o' g' => am_X L xs (d + 1) mi c lv (w.toList ++ r) am_C0 h' o' g' Q T) T) : am_X L xs (d + 1) mi pc lv (.int x2 :: .int x1 :: .ref 45 :: r) am_C0 h o g Q T :=
  xo_36 [some (.ref 45), some (.int x1), some (.int x2), none] r hp ⟨Nat.le_add_left 3 _, Nat.le_of_ble_eq_true hs, Nat.le_of_ble_eq_true rfl, (rv_45 _)⟩ rfl rfl hh H
theorem cl_117_23 {x1 : Int32} {x2 : Int32} {x3 : Int32} {x4 : Int32} (hp : am_P mi pc = some (36, 117, 5, c, v)) (hh : am_hd mi = []) (hs : Nat.ble ((r.map fun w => w.category).sum) 8 = true) (H : am_X L xs d 117 0 [some (.ref 23), some (.int x1), some (.int x2), some (.int x3), some (.int x4)] [] am_C0 h o g (fun w h' o' g' => am_X L xs (d + 1) mi c lv (w.toList ++ r) am_C0 h' o' g' Q T) T) : am_X L xs (d + 1) mi pc lv (.int x4 :: .int x3 :: .int x2 :: .int x1 :: .ref 23 :: r) am_C0 h o g Q T :=
  xo_36 [some (.ref 23), some (.int x1), some (.int x2), some (.int x3), some (.int x4)] r hp ⟨Nat.le_add_left 5 _, Nat.le_of_ble_eq_true hs, Nat.le_of_ble_eq_true rfl, (rv_23 _)⟩ rfl rfl hh H
theorem hd_116 : am_hd 116 = [] := rfl
theorem hd_117 : am_hd 117 = [] := rfl
theorem cl_127_59 {x1 : Int32} {x2 : Int32} (hp : am_P mi pc = some (36, 127, 3, c, v)) (hh : am_hd mi = []) (hs : Nat.ble ((r.map fun w => w.category).sum) 8 = true) (H : am_X L xs d 127 0 [some (.ref 59), some (.int x1), some (.int x2), none, none, none] [] am_C0 h o g (fun w h' o' g' => am_X L xs (d + 1) mi c lv (w.toList ++ r) am_C0 h' o' g' Q T) T) : am_X L xs (d + 1) mi pc lv (.int x2 :: .int x1 :: .ref 59 :: r) am_C0 h o g Q T :=
  xo_36 [some (.ref 59), some (.int x1), some (.int x2), none, none, none] r hp ⟨Nat.le_add_left 3 _, Nat.le_of_ble_eq_true hs, Nat.le_of_ble_eq_true rfl, (rv_59 _)⟩ rfl rfl hh H
theorem hd_126 : am_hd 126 = [] := rfl
theorem hd_128 : am_hd 128 = [] := rfl
theorem cb_65 : am_aR am_C0 65 5 3 am_f65 := am_aR.lit rfl rfl rfl
theorem hd_139 : am_hd 139 = [] := rfl
theorem cb_66 : am_aR am_C0 66 5 4 am_f66 := am_aR.lit rfl rfl rfl
theorem hd_141 : am_hd 141 = [] := rfl
theorem cl_145_s {ws : Nat} (hp : am_P mi pc = some (36, 145, 2, c, v)) (hh : am_hd mi = []) (hs : Nat.ble ((r.map fun w => w.category).sum) 8 = true) (H : am_X L xs d 145 0 [some (.ref 64), some (.ref ws), none] [] am_C0 h o g (fun w h' o' g' => am_X L xs (d + 1) mi c lv (w.toList ++ r) am_C0 h' o' g' Q T) T) : am_X L xs (d + 1) mi pc lv (.ref ws :: .ref 64 :: r) am_C0 h o g Q T :=
  xo_36 [some (.ref 64), some (.ref ws), none] r hp ⟨Nat.le_add_left 2 _, Nat.le_of_ble_eq_true hs, Nat.le_of_ble_eq_true rfl, (rv_64 _)⟩ rfl rfl hh H
theorem hd_142 : am_hd 142 = [] := rfl
theorem hd_144 : am_hd 144 = [] := rfl
theorem hd_146 : am_hd 146 = [] := rfl
theorem cr_23_11 : am_fR am_C0 23 0 11 3 := am_fR.lit rfl
theorem cl_17_61 {x1 : Int32} {x2 : Int32} (hp : am_P mi pc = some (36, 17, 3, c, v)) (hh : am_hd mi = []) (hs : Nat.ble ((r.map fun w => w.category).sum) 8 = true) (H : am_X L xs d 17 0 [some (.ref 61), some (.int x1), some (.int x2)] [] am_C0 h o g (fun w h' o' g' => am_X L xs (d + 1) mi c lv (w.toList ++ r) am_C0 h' o' g' Q T) T) : am_X L xs (d + 1) mi pc lv (.int x2 :: .int x1 :: .ref 61 :: r) am_C0 h o g Q T :=
  xo_36 [some (.ref 61), some (.int x1), some (.int x2)] r hp ⟨Nat.le_add_left 3 _, Nat.le_of_ble_eq_true hs, Nat.le_of_ble_eq_true rfl, (rv_61 _)⟩ rfl rfl hh H
theorem hd_16 : am_hd 16 = [] := rfl
theorem cl_18_61 {x1 : Int32} {x2 : Int32} (hp : am_P mi pc = some (36, 18, 3, c, v)) (hh : am_hd mi = []) (hs : Nat.ble ((r.map fun w => w.category).sum) 8 = true) (H : am_X L xs d 18 0 [some (.ref 61), some (.int x1), some (.int x2)] [] am_C0 h o g (fun w h' o' g' => am_X L xs (d + 1) mi c lv (w.toList ++ r) am_C0 h' o' g' Q T) T) : am_X L xs (d + 1) mi pc lv (.int x2 :: .int x1 :: .ref 61 :: r) am_C0 h o g Q T :=
  xo_36 [some (.ref 61), some (.int x1), some (.int x2)] r hp ⟨Nat.le_add_left 3 _, Nat.le_of_ble_eq_true hs, Nat.le_of_ble_eq_true rfl, (rv_61 _)⟩ rfl rfl hh H
theorem cr_64_37 : am_fR am_C0 64 7 37 88 := am_fR.lit rfl
theorem cl_183 {x0 : Int32} {x1 : Int32} {x2 : Int32} (hp : am_P mi pc = some (36, 183, 3, c, v)) (hh : am_hd mi = []) (hs : Nat.ble ((r.map fun w => w.category).sum) 8 = true) (H : am_X L xs d 183 0 [some (.int x0), some (.int x1), some (.int x2)] [] am_C0 h o g (fun w h' o' g' => am_X L xs (d + 1) mi c lv (w.toList ++ r) am_C0 h' o' g' Q T) T) : am_X L xs (d + 1) mi pc lv (.int x2 :: .int x1 :: .int x0 :: r) am_C0 h o g Q T :=
  xo_36 [some (.int x0), some (.int x1), some (.int x2)] r hp ⟨Nat.le_add_left 3 _, Nat.le_of_ble_eq_true hs, Nat.le_of_ble_eq_true rfl, rfl⟩ rfl rfl hh H
theorem hd_182 : am_hd 182 = [] := rfl
theorem ca_88 : am_aI am_C0 88 2 75 := am_aI.lit rfl rfl
theorem cl_186_64 {x1 : Int32} (hp : am_P mi pc = some (36, 186, 2, c, v)) (hh : am_hd mi = []) (hs : Nat.ble ((r.map fun w => w.category).sum) 8 = true) (H : am_X L xs d 186 0 [some (.ref 64), some (.int x1), none, none, none] [] am_C0 h o g (fun w h' o' g' => am_X L xs (d + 1) mi c lv (w.toList ++ r) am_C0 h' o' g' Q T) T) : am_X L xs (d + 1) mi pc lv (.int x1 :: .ref 64 :: r) am_C0 h o g Q T :=
  xo_36 [some (.ref 64), some (.int x1), none, none, none] r hp ⟨Nat.le_add_left 2 _, Nat.le_of_ble_eq_true hs, Nat.le_of_ble_eq_true rfl, (rv_64 _)⟩ rfl rfl hh H
theorem hd_185 : am_hd 185 = [] := rfl
theorem cl_188_64 {x1 : Int32} {x2 : Int32} (hp : am_P mi pc = some (36, 188, 3, c, v)) (hh : am_hd mi = []) (hs : Nat.ble ((r.map fun w => w.category).sum) 8 = true) (H : am_X L xs d 188 0 [some (.ref 64), some (.int x1), some (.int x2)] [] am_C0 h o g (fun w h' o' g' => am_X L xs (d + 1) mi c lv (w.toList ++ r) am_C0 h' o' g' Q T) T) : am_X L xs (d + 1) mi pc lv (.int x2 :: .int x1 :: .ref 64 :: r) am_C0 h o g Q T :=
  xo_36 [some (.ref 64), some (.int x1), some (.int x2)] r hp ⟨Nat.le_add_left 3 _, Nat.le_of_ble_eq_true hs, Nat.le_of_ble_eq_true rfl, (rv_64 _)⟩ rfl rfl hh H
theorem hd_188 : am_hd 188 = [] := rfl
theorem cr_64_38 : am_fR am_C0 64 7 38 89 := am_fR.lit rfl
theorem ca_89 : am_aI am_C0 89 0 5 := am_aI.lit rfl rfl
theorem cr_64_39 : am_fR am_C0 64 7 39 90 := am_fR.lit rfl
theorem ca_90 : am_aI am_C0 90 0 5 := am_aI.lit rfl rfl
theorem rv_13 (as : List Value) : am_recv 3 (.ref 13 :: as) am_C0 = true := rfl
theorem cl_26_13 (hp : am_P mi pc = some (36, 26, 1, c, v)) (hh : am_hd mi = []) (hs : Nat.ble ((r.map fun w => w.category).sum) 8 = true) (H : am_X L xs d 26 0 [some (.ref 13), none] [] am_C0 h o g (fun w h' o' g' => am_X L xs (d + 1) mi c lv (w.toList ++ r) am_C0 h' o' g' Q T) T) : am_X L xs (d + 1) mi pc lv (.ref 13 :: r) am_C0 h o g Q T :=
  xo_36 [some (.ref 13), none] r hp ⟨Nat.le_add_left 1 _, Nat.le_of_ble_eq_true hs, Nat.le_of_ble_eq_true rfl, (rv_13 _)⟩ rfl rfl hh H
theorem hd_25 : am_hd 25 = [] := rfl
theorem cf_1_4 : am_fI am_C0 1 4 4 := am_fI.lit rfl
theorem cf_1_5 : am_fI am_C0 1 4 5 := am_fI.lit rfl
theorem cf_1_3 : am_fI am_C0 1 4 3 := am_fI.lit rfl
theorem cf_1_8 : am_fI am_C0 1 4 8 := am_fI.lit rfl
theorem cl_27_1 (hp : am_P mi pc = some (36, 27, 1, c, v)) (hh : am_hd mi = []) (hs : Nat.ble ((r.map fun w => w.category).sum) 8 = true) (H : am_X L xs d 27 0 [some (.ref 1)] [] am_C0 h o g (fun w h' o' g' => am_X L xs (d + 1) mi c lv (w.toList ++ r) am_C0 h' o' g' Q T) T) : am_X L xs (d + 1) mi pc lv (.ref 1 :: r) am_C0 h o g Q T :=
  xo_36 [some (.ref 1)] r hp ⟨Nat.le_add_left 1 _, Nat.le_of_ble_eq_true hs, Nat.le_of_ble_eq_true rfl, (rv_1 _)⟩ rfl rfl hh H
theorem cf_1_7 : am_fI am_C0 1 4 7 := am_fI.lit rfl
theorem cl_29_1_13 (hp : am_P mi pc = some (36, 29, 2, c, v)) (hh : am_hd mi = []) (hs : Nat.ble ((r.map fun w => w.category).sum) 8 = true) (H : am_X L xs d 29 0 [some (.ref 1), some (.ref 13)] [] am_C0 h o g (fun w h' o' g' => am_X L xs (d + 1) mi c lv (w.toList ++ r) am_C0 h' o' g' Q T) T) : am_X L xs (d + 1) mi pc lv (.ref 13 :: .ref 1 :: r) am_C0 h o g Q T :=
  xo_36 [some (.ref 1), some (.ref 13)] r hp ⟨Nat.le_add_left 2 _, Nat.le_of_ble_eq_true hs, Nat.le_of_ble_eq_true rfl, (rv_1 _)⟩ rfl rfl hh H
theorem cl_47_23_61 {x1 : Int32} (hp : am_P mi pc = some (36, 47, 3, c, v)) (hh : am_hd mi = []) (hs : Nat.ble ((r.map fun w => w.category).sum) 8 = true) (H : am_X L xs d 47 0 [some (.ref 23), some (.int x1), some (.ref 61)] [] am_C0 h o g (fun w h' o' g' => am_X L xs (d + 1) mi c lv (w.toList ++ r) am_C0 h' o' g' Q T) T) : am_X L xs (d + 1) mi pc lv (.ref 61 :: .int x1 :: .ref 23 :: r) am_C0 h o g Q T :=
  xo_36 [some (.ref 23), some (.int x1), some (.ref 61)] r hp ⟨Nat.le_add_left 3 _, Nat.le_of_ble_eq_true hs, Nat.le_of_ble_eq_true rfl, (rv_23 _)⟩ rfl rfl hh H
theorem hd_46 : am_hd 46 = [] := rfl
theorem cl_61_3 {x1 : Int32} (hp : am_P mi pc = some (36, 61, 2, c, v)) (hh : am_hd mi = []) (hs : Nat.ble ((r.map fun w => w.category).sum) 8 = true) (H : am_X L xs d 61 0 [some (.ref 3), some (.int x1)] [] am_C0 h o g (fun w h' o' g' => am_X L xs (d + 1) mi c lv (w.toList ++ r) am_C0 h' o' g' Q T) T) : am_X L xs (d + 1) mi pc lv (.int x1 :: .ref 3 :: r) am_C0 h o g Q T :=
  xo_36 [some (.ref 3), some (.int x1)] r hp ⟨Nat.le_add_left 2 _, Nat.le_of_ble_eq_true hs, Nat.le_of_ble_eq_true rfl, (rv_3 _)⟩ rfl rfl hh H
theorem hd_60 : am_hd 60 = [] := rfl
theorem hd_68 : am_hd 68 = [] := rfl
theorem hd_69 : am_hd 69 = [] := rfl
theorem hd_76 : am_hd 76 = [] := rfl
theorem hd_80 : am_hd 80 = [] := rfl
theorem cl_86_45 {x1 : Int32} (hp : am_P mi pc = some (36, 86, 2, c, v)) (hh : am_hd mi = []) (hs : Nat.ble ((r.map fun w => w.category).sum) 8 = true) (H : am_X L xs d 86 0 [some (.ref 45), some (.int x1), none, none, none] [] am_C0 h o g (fun w h' o' g' => am_X L xs (d + 1) mi c lv (w.toList ++ r) am_C0 h' o' g' Q T) T) : am_X L xs (d + 1) mi pc lv (.int x1 :: .ref 45 :: r) am_C0 h o g Q T :=
  xo_36 [some (.ref 45), some (.int x1), none, none, none] r hp ⟨Nat.le_add_left 2 _, Nat.le_of_ble_eq_true hs, Nat.le_of_ble_eq_true rfl, (rv_45 _)⟩ rfl rfl hh H
theorem hd_85 : am_hd 85 = [] := rfl
theorem cr_45_0 : am_fR am_C0 45 2 0 46 := am_fR.lit rfl
theorem cl_87_45 (hp : am_P mi pc = some (36, 87, 1, c, v)) (hh : am_hd mi = []) (hs : Nat.ble ((r.map fun w => w.category).sum) 8 = true) (H : am_X L xs d 87 0 [some (.ref 45), none] [] am_C0 h o g (fun w h' o' g' => am_X L xs (d + 1) mi c lv (w.toList ++ r) am_C0 h' o' g' Q T) T) : am_X L xs (d + 1) mi pc lv (.ref 45 :: r) am_C0 h o g Q T :=
  xo_36 [some (.ref 45), none] r hp ⟨Nat.le_add_left 1 _, Nat.le_of_ble_eq_true hs, Nat.le_of_ble_eq_true rfl, (rv_45 _)⟩ rfl rfl hh H
theorem ca_46 : am_aI am_C0 46 0 5 := am_aI.lit rfl rfl
theorem cr_45_3 : am_fR am_C0 45 2 3 3 := am_fR.lit rfl
theorem cl_92_45 {x1 : Int32} {x2 : Int32} {x3 : Int32} {y4 : Int64} (hp : am_P mi pc = some (36, 92, 5, c, v)) (hh : am_hd mi = []) (hs : Nat.ble ((r.map fun w => w.category).sum) 8 = true) (H : am_X L xs d 92 0 [some (.ref 45), some (.int x1), some (.int x2), some (.int x3), some (.long y4), none, none, none, none, none, none] [] am_C0 h o g (fun w h' o' g' => am_X L xs (d + 1) mi c lv (w.toList ++ r) am_C0 h' o' g' Q T) T) : am_X L xs (d + 1) mi pc lv (.long y4 :: .int x3 :: .int x2 :: .int x1 :: .ref 45 :: r) am_C0 h o g Q T :=
  xo_36 [some (.ref 45), some (.int x1), some (.int x2), some (.int x3), some (.long y4), none, none, none, none, none, none] r hp ⟨Nat.le_add_left 5 _, Nat.le_of_ble_eq_true hs, Nat.le_of_ble_eq_true rfl, (rv_45 _)⟩ rfl rfl hh H
theorem hd_93 : am_hd 93 = [] := rfl
theorem hd_99 : am_hd 99 = [] := rfl
theorem cl_88_45 {x1 : Int32} {x2 : Int32} (hp : am_P mi pc = some (36, 88, 3, c, v)) (hh : am_hd mi = []) (hs : Nat.ble ((r.map fun w => w.category).sum) 8 = true) (H : am_X L xs d 88 0 [some (.ref 45), some (.int x1), some (.int x2), none, none] [] am_C0 h o g (fun w h' o' g' => am_X L xs (d + 1) mi c lv (w.toList ++ r) am_C0 h' o' g' Q T) T) : am_X L xs (d + 1) mi pc lv (.int x2 :: .int x1 :: .ref 45 :: r) am_C0 h o g Q T :=
  xo_36 [some (.ref 45), some (.int x1), some (.int x2), none, none] r hp ⟨Nat.le_add_left 3 _, Nat.le_of_ble_eq_true hs, Nat.le_of_ble_eq_true rfl, (rv_45 _)⟩ rfl rfl hh H
theorem hd_105 : am_hd 105 = [] := rfl
theorem cr_45_5 : am_fR am_C0 45 2 5 55 := am_fR.lit rfl
theorem ca_55 : am_aI am_C0 55 0 5 := am_aI.lit rfl rfl
theorem cf_45_11 : am_fI am_C0 45 2 11 := am_fI.lit rfl
theorem cf_45_12 : am_fI am_C0 45 2 12 := am_fI.lit rfl
theorem cf_45_13 : am_fI am_C0 45 2 13 := am_fI.lit rfl
theorem cl_106_45 {x1 : Int32} {x2 : Int32} {x3 : Int32} (hp : am_P mi pc = some (36, 106, 4, c, v)) (hh : am_hd mi = []) (hs : Nat.ble ((r.map fun w => w.category).sum) 8 = true) (H : am_X L xs d 106 0 [some (.ref 45), some (.int x1), some (.int x2), some (.int x3), none, none, none] [] am_C0 h o g (fun w h' o' g' => am_X L xs (d + 1) mi c lv (w.toList ++ r) am_C0 h' o' g' Q T) T) : am_X L xs (d + 1) mi pc lv (.int x3 :: .int x2 :: .int x1 :: .ref 45 :: r) am_C0 h o g Q T :=
  xo_36 [some (.ref 45), some (.int x1), some (.int x2), some (.int x3), none, none, none] r hp ⟨Nat.le_add_left 4 _, Nat.le_of_ble_eq_true hs, Nat.le_of_ble_eq_true rfl, (rv_45 _)⟩ rfl rfl hh H
theorem hd_127 : am_hd 127 = [] := rfl
theorem hd_145 : am_hd 145 = [] := rfl
theorem hd_186 : am_hd 186 = [] := rfl
theorem cl_187_64 {x1 : Int32} {x2 : Int32} (hp : am_P mi pc = some (36, 187, 3, c, v)) (hh : am_hd mi = []) (hs : Nat.ble ((r.map fun w => w.category).sum) 8 = true) (H : am_X L xs d 187 0 [some (.ref 64), some (.int x1), some (.int x2), none, none] [] am_C0 h o g (fun w h' o' g' => am_X L xs (d + 1) mi c lv (w.toList ++ r) am_C0 h' o' g' Q T) T) : am_X L xs (d + 1) mi pc lv (.int x2 :: .int x1 :: .ref 64 :: r) am_C0 h o g Q T :=
  xo_36 [some (.ref 64), some (.int x1), some (.int x2), none, none] r hp ⟨Nat.le_add_left 3 _, Nat.le_of_ble_eq_true hs, Nat.le_of_ble_eq_true rfl, (rv_64 _)⟩ rfl rfl hh H
theorem cl_28 {x0 : Int32} (hp : am_P mi pc = some (36, 28, 1, c, v)) (hh : am_hd mi = []) (hs : Nat.ble ((r.map fun w => w.category).sum) 8 = true) (H : am_X L xs d 28 0 [some (.int x0)] [] am_C0 h o g (fun w h' o' g' => am_X L xs (d + 1) mi c lv (w.toList ++ r) am_C0 h' o' g' Q T) T) : am_X L xs (d + 1) mi pc lv (.int x0 :: r) am_C0 h o g Q T :=
  xo_36 [some (.int x0)] r hp ⟨Nat.le_add_left 1 _, Nat.le_of_ble_eq_true hs, Nat.le_of_ble_eq_true rfl, rfl⟩ rfl rfl hh H
theorem hd_27 : am_hd 27 = [] := rfl
theorem cf_1_6 : am_fI am_C0 1 4 6 := am_fI.lit rfl
theorem cl_30_s {ws : Nat} (hp : am_P mi pc = some (36, 30, 2, c, v)) (hh : am_hd mi = []) (hs : Nat.ble ((r.map fun w => w.category).sum) 8 = true) (H : am_X L xs d 30 0 [some (.ref 1), some (.ref ws), none] [] am_C0 h o g (fun w h' o' g' => am_X L xs (d + 1) mi c lv (w.toList ++ r) am_C0 h' o' g' Q T) T) : am_X L xs (d + 1) mi pc lv (.ref ws :: .ref 1 :: r) am_C0 h o g Q T :=
  xo_36 [some (.ref 1), some (.ref ws), none] r hp ⟨Nat.le_add_left 2 _, Nat.le_of_ble_eq_true hs, Nat.le_of_ble_eq_true rfl, (rv_1 _)⟩ rfl rfl hh H
theorem hd_29 : am_hd 29 = [] := rfl
theorem cl_31_1_13 (hp : am_P mi pc = some (36, 31, 2, c, v)) (hh : am_hd mi = []) (hs : Nat.ble ((r.map fun w => w.category).sum) 8 = true) (H : am_X L xs d 31 0 [some (.ref 1), some (.ref 13), none] [] am_C0 h o g (fun w h' o' g' => am_X L xs (d + 1) mi c lv (w.toList ++ r) am_C0 h' o' g' Q T) T) : am_X L xs (d + 1) mi pc lv (.ref 13 :: .ref 1 :: r) am_C0 h o g Q T :=
  xo_36 [some (.ref 1), some (.ref 13), none] r hp ⟨Nat.le_add_left 2 _, Nat.le_of_ble_eq_true hs, Nat.le_of_ble_eq_true rfl, (rv_1 _)⟩ rfl rfl hh H
theorem cl_35_1_13 (hp : am_P mi pc = some (36, 35, 2, c, v)) (hh : am_hd mi = []) (hs : Nat.ble ((r.map fun w => w.category).sum) 8 = true) (H : am_X L xs d 35 0 [some (.ref 1), some (.ref 13)] [] am_C0 h o g (fun w h' o' g' => am_X L xs (d + 1) mi c lv (w.toList ++ r) am_C0 h' o' g' Q T) T) : am_X L xs (d + 1) mi pc lv (.ref 13 :: .ref 1 :: r) am_C0 h o g Q T :=
  xo_36 [some (.ref 1), some (.ref 13)] r hp ⟨Nat.le_add_left 2 _, Nat.le_of_ble_eq_true hs, Nat.le_of_ble_eq_true rfl, (rv_1 _)⟩ rfl rfl hh H
theorem cl_32_1 {x1 : Int32} (hp : am_P mi pc = some (36, 32, 2, c, v)) (hh : am_hd mi = []) (hs : Nat.ble ((r.map fun w => w.category).sum) 8 = true) (H : am_X L xs d 32 0 [some (.ref 1), some (.int x1)] [] am_C0 h o g (fun w h' o' g' => am_X L xs (d + 1) mi c lv (w.toList ++ r) am_C0 h' o' g' Q T) T) : am_X L xs (d + 1) mi pc lv (.int x1 :: .ref 1 :: r) am_C0 h o g Q T :=
  xo_36 [some (.ref 1), some (.int x1)] r hp ⟨Nat.le_add_left 2 _, Nat.le_of_ble_eq_true hs, Nat.le_of_ble_eq_true rfl, (rv_1 _)⟩ rfl rfl hh H
theorem cl_36_1_13 {x2 : Int32} (hp : am_P mi pc = some (36, 36, 3, c, v)) (hh : am_hd mi = []) (hs : Nat.ble ((r.map fun w => w.category).sum) 8 = true) (H : am_X L xs d 36 0 [some (.ref 1), some (.ref 13), some (.int x2), none] [] am_C0 h o g (fun w h' o' g' => am_X L xs (d + 1) mi c lv (w.toList ++ r) am_C0 h' o' g' Q T) T) : am_X L xs (d + 1) mi pc lv (.int x2 :: .ref 13 :: .ref 1 :: r) am_C0 h o g Q T :=
  xo_36 [some (.ref 1), some (.ref 13), some (.int x2), none] r hp ⟨Nat.le_add_left 3 _, Nat.le_of_ble_eq_true hs, Nat.le_of_ble_eq_true rfl, (rv_1 _)⟩ rfl rfl hh H
theorem cl_37_1_13 {x2 : Int32} {x3 : Int32} (hp : am_P mi pc = some (36, 37, 4, c, v)) (hh : am_hd mi = []) (hs : Nat.ble ((r.map fun w => w.category).sum) 8 = true) (H : am_X L xs d 37 0 [some (.ref 1), some (.ref 13), some (.int x2), some (.int x3), none] [] am_C0 h o g (fun w h' o' g' => am_X L xs (d + 1) mi c lv (w.toList ++ r) am_C0 h' o' g' Q T) T) : am_X L xs (d + 1) mi pc lv (.int x3 :: .int x2 :: .ref 13 :: .ref 1 :: r) am_C0 h o g Q T :=
  xo_36 [some (.ref 1), some (.ref 13), some (.int x2), some (.int x3), none] r hp ⟨Nat.le_add_left 4 _, Nat.le_of_ble_eq_true hs, Nat.le_of_ble_eq_true rfl, (rv_1 _)⟩ rfl rfl hh H
theorem hd_47 : am_hd 47 = [] := rfl
theorem cr_45_4 : am_fR am_C0 45 2 4 49 := am_fR.lit rfl
theorem cb_49 : am_aR am_C0 49 4 5 am_f49 := am_aR.lit rfl rfl rfl
theorem hd_86 : am_hd 86 = [] := rfl
theorem ca_50 : am_aI am_C0 50 0 15 := am_aI.lit rfl rfl
theorem hd_87 : am_hd 87 = [] := rfl
theorem cl_90_45 {x1 : Int32} (hp : am_P mi pc = some (36, 90, 2, c, v)) (hh : am_hd mi = []) (hs : Nat.ble ((r.map fun w => w.category).sum) 8 = true) (H : am_X L xs d 90 0 [some (.ref 45), some (.int x1), none] [] am_C0 h o g (fun w h' o' g' => am_X L xs (d + 1) mi c lv (w.toList ++ r) am_C0 h' o' g' Q T) T) : am_X L xs (d + 1) mi pc lv (.int x1 :: .ref 45 :: r) am_C0 h o g Q T :=
  xo_36 [some (.ref 45), some (.int x1), none] r hp ⟨Nat.le_add_left 2 _, Nat.le_of_ble_eq_true hs, Nat.le_of_ble_eq_true rfl, (rv_45 _)⟩ rfl rfl hh H
theorem cf_45_10 : am_fI am_C0 45 2 10 := am_fI.lit rfl
theorem hd_92 : am_hd 92 = [] := rfl
theorem ca_51 : am_aI am_C0 51 0 15 := am_aI.lit rfl rfl
theorem ca_52 : am_aI am_C0 52 0 15 := am_aI.lit rfl rfl
theorem ca_53 : am_aI am_C0 53 0 15 := am_aI.lit rfl rfl
theorem ca_54 : am_aI am_C0 54 0 15 := am_aI.lit rfl rfl
theorem hd_106 : am_hd 106 = [] := rfl
theorem cl_33_1 {x1 : Int32} {x2 : Int32} (hp : am_P mi pc = some (36, 33, 3, c, v)) (hh : am_hd mi = []) (hs : Nat.ble ((r.map fun w => w.category).sum) 8 = true) (H : am_X L xs d 33 0 [some (.ref 1), some (.int x1), some (.int x2), none] [] am_C0 h o g (fun w h' o' g' => am_X L xs (d + 1) mi c lv (w.toList ++ r) am_C0 h' o' g' Q T) T) : am_X L xs (d + 1) mi pc lv (.int x2 :: .int x1 :: .ref 1 :: r) am_C0 h o g Q T :=
  xo_36 [some (.ref 1), some (.int x1), some (.int x2), none] r hp ⟨Nat.le_add_left 3 _, Nat.le_of_ble_eq_true hs, Nat.le_of_ble_eq_true rfl, (rv_1 _)⟩ rfl rfl hh H
theorem hd_31 : am_hd 31 = [] := rfl
theorem hd_35 : am_hd 35 = [] := rfl
theorem hd_36 : am_hd 36 = [] := rfl
theorem hd_37 : am_hd 37 = [] := rfl
theorem cl_89_45 {x1 : Int32} {x2 : Int32} {x3 : Int32} (hp : am_P mi pc = some (36, 89, 4, c, v)) (hh : am_hd mi = []) (hs : Nat.ble ((r.map fun w => w.category).sum) 8 = true) (H : am_X L xs d 89 0 [some (.ref 45), some (.int x1), some (.int x2), some (.int x3), none, none] [] am_C0 h o g (fun w h' o' g' => am_X L xs (d + 1) mi c lv (w.toList ++ r) am_C0 h' o' g' Q T) T) : am_X L xs (d + 1) mi pc lv (.int x3 :: .int x2 :: .int x1 :: .ref 45 :: r) am_C0 h o g Q T :=
  xo_36 [some (.ref 45), some (.int x1), some (.int x2), some (.int x3), none, none] r hp ⟨Nat.le_add_left 4 _, Nat.le_of_ble_eq_true hs, Nat.le_of_ble_eq_true rfl, (rv_45 _)⟩ rfl rfl hh H
theorem hd_88 : am_hd 88 = [] := rfl
theorem cr_45_6 : am_fR am_C0 45 2 6 56 := am_fR.lit rfl
theorem ca_56 : am_aI am_C0 56 0 6 := am_aI.lit rfl rfl
theorem cr_45_8 : am_fR am_C0 45 2 8 58 := am_fR.lit rfl
theorem ca_58 : am_aI am_C0 58 0 5 := am_aI.lit rfl rfl
theorem cf_45_9 : am_fI am_C0 45 2 9 := am_fI.lit rfl
theorem cl_91_45 {x1 : Int32} {x2 : Int32} (hp : am_P mi pc = some (36, 91, 3, c, v)) (hh : am_hd mi = []) (hs : Nat.ble ((r.map fun w => w.category).sum) 8 = true) (H : am_X L xs d 91 0 [some (.ref 45), some (.int x1), some (.int x2), none, none] [] am_C0 h o g (fun w h' o' g' => am_X L xs (d + 1) mi c lv (w.toList ++ r) am_C0 h' o' g' Q T) T) : am_X L xs (d + 1) mi pc lv (.int x2 :: .int x1 :: .ref 45 :: r) am_C0 h o g Q T :=
  xo_36 [some (.ref 45), some (.int x1), some (.int x2), none, none] r hp ⟨Nat.le_add_left 3 _, Nat.le_of_ble_eq_true hs, Nat.le_of_ble_eq_true rfl, (rv_45 _)⟩ rfl rfl hh H
theorem hd_90 : am_hd 90 = [] := rfl
theorem hd_33 : am_hd 33 = [] := rfl
theorem cl_34_1 (hp : am_P mi pc = some (36, 34, 1, c, v)) (hh : am_hd mi = []) (hs : Nat.ble ((r.map fun w => w.category).sum) 8 = true) (H : am_X L xs d 34 0 [some (.ref 1), none, none] [] am_C0 h o g (fun w h' o' g' => am_X L xs (d + 1) mi c lv (w.toList ++ r) am_C0 h' o' g' Q T) T) : am_X L xs (d + 1) mi pc lv (.ref 1 :: r) am_C0 h o g Q T :=
  xo_36 [some (.ref 1), none, none] r hp ⟨Nat.le_add_left 1 _, Nat.le_of_ble_eq_true hs, Nat.le_of_ble_eq_true rfl, (rv_1 _)⟩ rfl rfl hh H
theorem cr_45_7 : am_fR am_C0 45 2 7 57 := am_fR.lit rfl
theorem ca_57 : am_aI am_C0 57 0 5 := am_aI.lit rfl rfl
theorem hd_91 : am_hd 91 = [] := rfl
def fn_14 (x0 : Int32) : Int32 := ((((((((x0 - (((x0.toUInt32 >>> ((1 : Int32).toUInt32 &&& Int32.toUInt32 31)).toInt32) &&& 1431655765)) &&& 858993459) + ((((x0 - (((x0.toUInt32 >>> ((1 : Int32).toUInt32 &&& Int32.toUInt32 31)).toInt32) &&& 1431655765)).toUInt32 >>> ((2 : Int32).toUInt32 &&& Int32.toUInt32 31)).toInt32) &&& 858993459)) + (((((x0 - (((x0.toUInt32 >>> ((1 : Int32).toUInt32 &&& Int32.toUInt32 31)).toInt32) &&& 1431655765)) &&& 858993459) + ((((x0 - (((x0.toUInt32 >>> ((1 : Int32).toUInt32 &&& Int32.toUInt32 31)).toInt32) &&& 1431655765)).toUInt32 >>> ((2 : Int32).toUInt32 &&& Int32.toUInt32 31)).toInt32) &&& 858993459)).toUInt32 >>> ((4 : Int32).toUInt32 &&& Int32.toUInt32 31)).toInt32)) &&& 252645135) + (((((((x0 - (((x0.toUInt32 >>> ((1 : Int32).toUInt32 &&& Int32.toUInt32 31)).toInt32) &&& 1431655765)) &&& 858993459) + ((((x0 - (((x0.toUInt32 >>> ((1 : Int32).toUInt32 &&& Int32.toUInt32 31)).toInt32) &&& 1431655765)).toUInt32 >>> ((2 : Int32).toUInt32 &&& Int32.toUInt32 31)).toInt32) &&& 858993459)) + (((((x0 - (((x0.toUInt32 >>> ((1 : Int32).toUInt32 &&& Int32.toUInt32 31)).toInt32) &&& 1431655765)) &&& 858993459) + ((((x0 - (((x0.toUInt32 >>> ((1 : Int32).toUInt32 &&& Int32.toUInt32 31)).toInt32) &&& 1431655765)).toUInt32 >>> ((2 : Int32).toUInt32 &&& Int32.toUInt32 31)).toInt32) &&& 858993459)).toUInt32 >>> ((4 : Int32).toUInt32 &&& Int32.toUInt32 31)).toInt32)) &&& 252645135).toUInt32 >>> ((8 : Int32).toUInt32 &&& Int32.toUInt32 31)).toInt32)) + ((((((((x0 - (((x0.toUInt32 >>> ((1 : Int32).toUInt32 &&& Int32.toUInt32 31)).toInt32) &&& 1431655765)) &&& 858993459) + ((((x0 - (((x0.toUInt32 >>> ((1 : Int32).toUInt32 &&& Int32.toUInt32 31)).toInt32) &&& 1431655765)).toUInt32 >>> ((2 : Int32).toUInt32 &&& Int32.toUInt32 31)).toInt32) &&& 858993459)) + (((((x0 - (((x0.toUInt32 >>> ((1 : Int32).toUInt32 &&& Int32.toUInt32 31)).toInt32) &&& 1431655765)) &&& 858993459) + ((((x0 - (((x0.toUInt32 >>> ((1 : Int32).toUInt32 &&& Int32.toUInt32 31)).toInt32) &&& 1431655765)).toUInt32 >>> ((2 : Int32).toUInt32 &&& Int32.toUInt32 31)).toInt32) &&& 858993459)).toUInt32 >>> ((4 : Int32).toUInt32 &&& Int32.toUInt32 31)).toInt32)) &&& 252645135) + (((((((x0 - (((x0.toUInt32 >>> ((1 : Int32).toUInt32 &&& Int32.toUInt32 31)).toInt32) &&& 1431655765)) &&& 858993459) + ((((x0 - (((x0.toUInt32 >>> ((1 : Int32).toUInt32 &&& Int32.toUInt32 31)).toInt32) &&& 1431655765)).toUInt32 >>> ((2 : Int32).toUInt32 &&& Int32.toUInt32 31)).toInt32) &&& 858993459)) + (((((x0 - (((x0.toUInt32 >>> ((1 : Int32).toUInt32 &&& Int32.toUInt32 31)).toInt32) &&& 1431655765)) &&& 858993459) + ((((x0 - (((x0.toUInt32 >>> ((1 : Int32).toUInt32 &&& Int32.toUInt32 31)).toInt32) &&& 1431655765)).toUInt32 >>> ((2 : Int32).toUInt32 &&& Int32.toUInt32 31)).toInt32) &&& 858993459)).toUInt32 >>> ((4 : Int32).toUInt32 &&& Int32.toUInt32 31)).toInt32)) &&& 252645135).toUInt32 >>> ((8 : Int32).toUInt32 &&& Int32.toUInt32 31)).toInt32)).toUInt32 >>> ((16 : Int32).toUInt32 &&& Int32.toUInt32 31)).toInt32)) &&& 63)
theorem sq_14 {x0 : Int32} (H : Q (some (.int ((((((((x0 - (((x0.toUInt32 >>> ((1 : Int32).toUInt32 &&& Int32.toUInt32 31)).toInt32) &&& 1431655765)) &&& 858993459) + ((((x0 - (((x0.toUInt32 >>> ((1 : Int32).toUInt32 &&& Int32.toUInt32 31)).toInt32) &&& 1431655765)).toUInt32 >>> ((2 : Int32).toUInt32 &&& Int32.toUInt32 31)).toInt32) &&& 858993459)) + (((((x0 - (((x0.toUInt32 >>> ((1 : Int32).toUInt32 &&& Int32.toUInt32 31)).toInt32) &&& 1431655765)) &&& 858993459) + ((((x0 - (((x0.toUInt32 >>> ((1 : Int32).toUInt32 &&& Int32.toUInt32 31)).toInt32) &&& 1431655765)).toUInt32 >>> ((2 : Int32).toUInt32 &&& Int32.toUInt32 31)).toInt32) &&& 858993459)).toUInt32 >>> ((4 : Int32).toUInt32 &&& Int32.toUInt32 31)).toInt32)) &&& 252645135) + (((((((x0 - (((x0.toUInt32 >>> ((1 : Int32).toUInt32 &&& Int32.toUInt32 31)).toInt32) &&& 1431655765)) &&& 858993459) + ((((x0 - (((x0.toUInt32 >>> ((1 : Int32).toUInt32 &&& Int32.toUInt32 31)).toInt32) &&& 1431655765)).toUInt32 >>> ((2 : Int32).toUInt32 &&& Int32.toUInt32 31)).toInt32) &&& 858993459)) + (((((x0 - (((x0.toUInt32 >>> ((1 : Int32).toUInt32 &&& Int32.toUInt32 31)).toInt32) &&& 1431655765)) &&& 858993459) + ((((x0 - (((x0.toUInt32 >>> ((1 : Int32).toUInt32 &&& Int32.toUInt32 31)).toInt32) &&& 1431655765)).toUInt32 >>> ((2 : Int32).toUInt32 &&& Int32.toUInt32 31)).toInt32) &&& 858993459)).toUInt32 >>> ((4 : Int32).toUInt32 &&& Int32.toUInt32 31)).toInt32)) &&& 252645135).toUInt32 >>> ((8 : Int32).toUInt32 &&& Int32.toUInt32 31)).toInt32)) + ((((((((x0 - (((x0.toUInt32 >>> ((1 : Int32).toUInt32 &&& Int32.toUInt32 31)).toInt32) &&& 1431655765)) &&& 858993459) + ((((x0 - (((x0.toUInt32 >>> ((1 : Int32).toUInt32 &&& Int32.toUInt32 31)).toInt32) &&& 1431655765)).toUInt32 >>> ((2 : Int32).toUInt32 &&& Int32.toUInt32 31)).toInt32) &&& 858993459)) + (((((x0 - (((x0.toUInt32 >>> ((1 : Int32).toUInt32 &&& Int32.toUInt32 31)).toInt32) &&& 1431655765)) &&& 858993459) + ((((x0 - (((x0.toUInt32 >>> ((1 : Int32).toUInt32 &&& Int32.toUInt32 31)).toInt32) &&& 1431655765)).toUInt32 >>> ((2 : Int32).toUInt32 &&& Int32.toUInt32 31)).toInt32) &&& 858993459)).toUInt32 >>> ((4 : Int32).toUInt32 &&& Int32.toUInt32 31)).toInt32)) &&& 252645135) + (((((((x0 - (((x0.toUInt32 >>> ((1 : Int32).toUInt32 &&& Int32.toUInt32 31)).toInt32) &&& 1431655765)) &&& 858993459) + ((((x0 - (((x0.toUInt32 >>> ((1 : Int32).toUInt32 &&& Int32.toUInt32 31)).toInt32) &&& 1431655765)).toUInt32 >>> ((2 : Int32).toUInt32 &&& Int32.toUInt32 31)).toInt32) &&& 858993459)) + (((((x0 - (((x0.toUInt32 >>> ((1 : Int32).toUInt32 &&& Int32.toUInt32 31)).toInt32) &&& 1431655765)) &&& 858993459) + ((((x0 - (((x0.toUInt32 >>> ((1 : Int32).toUInt32 &&& Int32.toUInt32 31)).toInt32) &&& 1431655765)).toUInt32 >>> ((2 : Int32).toUInt32 &&& Int32.toUInt32 31)).toInt32) &&& 858993459)).toUInt32 >>> ((4 : Int32).toUInt32 &&& Int32.toUInt32 31)).toInt32)) &&& 252645135).toUInt32 >>> ((8 : Int32).toUInt32 &&& Int32.toUInt32 31)).toInt32)).toUInt32 >>> ((16 : Int32).toUInt32 &&& Int32.toUInt32 31)).toInt32)) &&& 63))) h o g) : am_X L xs d 14 0 [some (.int x0)] [] am_C0 h o g Q T := by
  refine xo_1 rfl rfl ?_
  refine xo_1 rfl rfl ?_
  refine xo_0 rfl ?_
  refine xo_7 rfl rfl ?_
  refine xo_0 rfl ?_
  refine xo_7 rfl rfl ?_
  refine xo_7 rfl rfl ?_
  refine xo_4 (lv' := [some (.int (x0 - (((x0.toUInt32 >>> ((1 : Int32).toUInt32 &&& Int32.toUInt32 31)).toInt32) &&& 1431655765)))]) rfl rfl rfl ?_
  refine xo_1 rfl rfl ?_
  refine xo_0 rfl ?_
  refine xo_7 rfl rfl ?_
  refine xo_1 rfl rfl ?_
  refine xo_0 rfl ?_
  refine xo_7 rfl rfl ?_
  refine xo_0 rfl ?_
  refine xo_7 rfl rfl ?_
  refine xo_7 rfl rfl ?_
  refine xo_4 (lv' := [some (.int (((x0 - (((x0.toUInt32 >>> ((1 : Int32).toUInt32 &&& Int32.toUInt32 31)).toInt32) &&& 1431655765)) &&& 858993459) + ((((x0 - (((x0.toUInt32 >>> ((1 : Int32).toUInt32 &&& Int32.toUInt32 31)).toInt32) &&& 1431655765)).toUInt32 >>> ((2 : Int32).toUInt32 &&& Int32.toUInt32 31)).toInt32) &&& 858993459)))]) rfl rfl rfl ?_
  refine xo_1 rfl rfl ?_
  refine xo_1 rfl rfl ?_
  refine xo_0 rfl ?_
  refine xo_7 rfl rfl ?_
  refine xo_7 rfl rfl ?_
  refine xo_0 rfl ?_
  refine xo_7 rfl rfl ?_
  refine xo_4 (lv' := [some (.int (((((x0 - (((x0.toUInt32 >>> ((1 : Int32).toUInt32 &&& Int32.toUInt32 31)).toInt32) &&& 1431655765)) &&& 858993459) + ((((x0 - (((x0.toUInt32 >>> ((1 : Int32).toUInt32 &&& Int32.toUInt32 31)).toInt32) &&& 1431655765)).toUInt32 >>> ((2 : Int32).toUInt32 &&& Int32.toUInt32 31)).toInt32) &&& 858993459)) + (((((x0 - (((x0.toUInt32 >>> ((1 : Int32).toUInt32 &&& Int32.toUInt32 31)).toInt32) &&& 1431655765)) &&& 858993459) + ((((x0 - (((x0.toUInt32 >>> ((1 : Int32).toUInt32 &&& Int32.toUInt32 31)).toInt32) &&& 1431655765)).toUInt32 >>> ((2 : Int32).toUInt32 &&& Int32.toUInt32 31)).toInt32) &&& 858993459)).toUInt32 >>> ((4 : Int32).toUInt32 &&& Int32.toUInt32 31)).toInt32)) &&& 252645135))]) rfl rfl rfl ?_
  refine xo_1 rfl rfl ?_
  refine xo_1 rfl rfl ?_
  refine xo_0 rfl ?_
  refine xo_7 rfl rfl ?_
  refine xo_7 rfl rfl ?_
  refine xo_4 (lv' := [some (.int ((((((x0 - (((x0.toUInt32 >>> ((1 : Int32).toUInt32 &&& Int32.toUInt32 31)).toInt32) &&& 1431655765)) &&& 858993459) + ((((x0 - (((x0.toUInt32 >>> ((1 : Int32).toUInt32 &&& Int32.toUInt32 31)).toInt32) &&& 1431655765)).toUInt32 >>> ((2 : Int32).toUInt32 &&& Int32.toUInt32 31)).toInt32) &&& 858993459)) + (((((x0 - (((x0.toUInt32 >>> ((1 : Int32).toUInt32 &&& Int32.toUInt32 31)).toInt32) &&& 1431655765)) &&& 858993459) + ((((x0 - (((x0.toUInt32 >>> ((1 : Int32).toUInt32 &&& Int32.toUInt32 31)).toInt32) &&& 1431655765)).toUInt32 >>> ((2 : Int32).toUInt32 &&& Int32.toUInt32 31)).toInt32) &&& 858993459)).toUInt32 >>> ((4 : Int32).toUInt32 &&& Int32.toUInt32 31)).toInt32)) &&& 252645135) + (((((((x0 - (((x0.toUInt32 >>> ((1 : Int32).toUInt32 &&& Int32.toUInt32 31)).toInt32) &&& 1431655765)) &&& 858993459) + ((((x0 - (((x0.toUInt32 >>> ((1 : Int32).toUInt32 &&& Int32.toUInt32 31)).toInt32) &&& 1431655765)).toUInt32 >>> ((2 : Int32).toUInt32 &&& Int32.toUInt32 31)).toInt32) &&& 858993459)) + (((((x0 - (((x0.toUInt32 >>> ((1 : Int32).toUInt32 &&& Int32.toUInt32 31)).toInt32) &&& 1431655765)) &&& 858993459) + ((((x0 - (((x0.toUInt32 >>> ((1 : Int32).toUInt32 &&& Int32.toUInt32 31)).toInt32) &&& 1431655765)).toUInt32 >>> ((2 : Int32).toUInt32 &&& Int32.toUInt32 31)).toInt32) &&& 858993459)).toUInt32 >>> ((4 : Int32).toUInt32 &&& Int32.toUInt32 31)).toInt32)) &&& 252645135).toUInt32 >>> ((8 : Int32).toUInt32 &&& Int32.toUInt32 31)).toInt32)))]) rfl rfl rfl ?_
  refine xo_1 rfl rfl ?_
  refine xo_1 rfl rfl ?_
  refine xo_0 rfl ?_
  refine xo_7 rfl rfl ?_
  refine xo_7 rfl rfl ?_
  refine xo_4 (lv' := [some (.int (((((((x0 - (((x0.toUInt32 >>> ((1 : Int32).toUInt32 &&& Int32.toUInt32 31)).toInt32) &&& 1431655765)) &&& 858993459) + ((((x0 - (((x0.toUInt32 >>> ((1 : Int32).toUInt32 &&& Int32.toUInt32 31)).toInt32) &&& 1431655765)).toUInt32 >>> ((2 : Int32).toUInt32 &&& Int32.toUInt32 31)).toInt32) &&& 858993459)) + (((((x0 - (((x0.toUInt32 >>> ((1 : Int32).toUInt32 &&& Int32.toUInt32 31)).toInt32) &&& 1431655765)) &&& 858993459) + ((((x0 - (((x0.toUInt32 >>> ((1 : Int32).toUInt32 &&& Int32.toUInt32 31)).toInt32) &&& 1431655765)).toUInt32 >>> ((2 : Int32).toUInt32 &&& Int32.toUInt32 31)).toInt32) &&& 858993459)).toUInt32 >>> ((4 : Int32).toUInt32 &&& Int32.toUInt32 31)).toInt32)) &&& 252645135) + (((((((x0 - (((x0.toUInt32 >>> ((1 : Int32).toUInt32 &&& Int32.toUInt32 31)).toInt32) &&& 1431655765)) &&& 858993459) + ((((x0 - (((x0.toUInt32 >>> ((1 : Int32).toUInt32 &&& Int32.toUInt32 31)).toInt32) &&& 1431655765)).toUInt32 >>> ((2 : Int32).toUInt32 &&& Int32.toUInt32 31)).toInt32) &&& 858993459)) + (((((x0 - (((x0.toUInt32 >>> ((1 : Int32).toUInt32 &&& Int32.toUInt32 31)).toInt32) &&& 1431655765)) &&& 858993459) + ((((x0 - (((x0.toUInt32 >>> ((1 : Int32).toUInt32 &&& Int32.toUInt32 31)).toInt32) &&& 1431655765)).toUInt32 >>> ((2 : Int32).toUInt32 &&& Int32.toUInt32 31)).toInt32) &&& 858993459)).toUInt32 >>> ((4 : Int32).toUInt32 &&& Int32.toUInt32 31)).toInt32)) &&& 252645135).toUInt32 >>> ((8 : Int32).toUInt32 &&& Int32.toUInt32 31)).toInt32)) + ((((((((x0 - (((x0.toUInt32 >>> ((1 : Int32).toUInt32 &&& Int32.toUInt32 31)).toInt32) &&& 1431655765)) &&& 858993459) + ((((x0 - (((x0.toUInt32 >>> ((1 : Int32).toUInt32 &&& Int32.toUInt32 31)).toInt32) &&& 1431655765)).toUInt32 >>> ((2 : Int32).toUInt32 &&& Int32.toUInt32 31)).toInt32) &&& 858993459)) + (((((x0 - (((x0.toUInt32 >>> ((1 : Int32).toUInt32 &&& Int32.toUInt32 31)).toInt32) &&& 1431655765)) &&& 858993459) + ((((x0 - (((x0.toUInt32 >>> ((1 : Int32).toUInt32 &&& Int32.toUInt32 31)).toInt32) &&& 1431655765)).toUInt32 >>> ((2 : Int32).toUInt32 &&& Int32.toUInt32 31)).toInt32) &&& 858993459)).toUInt32 >>> ((4 : Int32).toUInt32 &&& Int32.toUInt32 31)).toInt32)) &&& 252645135) + (((((((x0 - (((x0.toUInt32 >>> ((1 : Int32).toUInt32 &&& Int32.toUInt32 31)).toInt32) &&& 1431655765)) &&& 858993459) + ((((x0 - (((x0.toUInt32 >>> ((1 : Int32).toUInt32 &&& Int32.toUInt32 31)).toInt32) &&& 1431655765)).toUInt32 >>> ((2 : Int32).toUInt32 &&& Int32.toUInt32 31)).toInt32) &&& 858993459)) + (((((x0 - (((x0.toUInt32 >>> ((1 : Int32).toUInt32 &&& Int32.toUInt32 31)).toInt32) &&& 1431655765)) &&& 858993459) + ((((x0 - (((x0.toUInt32 >>> ((1 : Int32).toUInt32 &&& Int32.toUInt32 31)).toInt32) &&& 1431655765)).toUInt32 >>> ((2 : Int32).toUInt32 &&& Int32.toUInt32 31)).toInt32) &&& 858993459)).toUInt32 >>> ((4 : Int32).toUInt32 &&& Int32.toUInt32 31)).toInt32)) &&& 252645135).toUInt32 >>> ((8 : Int32).toUInt32 &&& Int32.toUInt32 31)).toInt32)).toUInt32 >>> ((16 : Int32).toUInt32 &&& Int32.toUInt32 31)).toInt32)))]) rfl rfl rfl ?_
  refine xo_1 rfl rfl ?_
  refine xo_0 rfl ?_
  refine xo_7 rfl rfl ?_
  refine xo_41 rfl ?_
  exact H
theorem sf_14 {x0 : Int32} (H : Q (some (.int (fn_14 x0))) h o g) : am_X L xs d 14 0 [some (.int x0)] [] am_C0 h o g Q T := by
  refine sq_14 ?_
  unfold fn_14 at H
  exact H
def fn_163 (h : am_M) (x1 : Int32) : Int32 := (((h 68 3) * (6 - (if 0 ≤ ((x1 - x1 / 12 * 12) - 6) then ((x1 - x1 / 12 * 12) - 6) else 0 - ((x1 - x1 / 12 * 12) - 6)))) / 6)
theorem sq_163 {x1 : Int32} (H : Q (some (.int (((h 68 3) * (6 - (if 0 ≤ ((x1 - x1 / 12 * 12) - 6) then ((x1 - x1 / 12 * 12) - 6) else 0 - ((x1 - x1 / 12 * 12) - 6)))) / 6))) h o g) : am_X L xs d 163 0 [some (.ref 64), some (.int x1)] [] am_C0 h o g Q T := by
  refine xo_2 rfl rfl ?_
  refine xo_13r rfl cr_64_4 ?_
  refine xo_0 rfl ?_
  refine xo_17 rfl ca_68 (am_ix.lit rfl) ?_
  refine xo_0 rfl ?_
  refine xo_1 rfl rfl ?_
  refine xo_0 rfl ?_
  refine xo_7r rfl (by decide) ?_
  refine xo_0 rfl ?_
  refine xo_7 rfl rfl ?_
  refine xo_47a rfl (Nat.le_of_ble_eq_true rfl) ?_
  refine xo_7 rfl rfl ?_
  refine xo_7 rfl rfl ?_
  refine xo_0 rfl ?_
  refine xo_7d rfl (by decide) ?_
  refine xo_41 rfl ?_
  exact H
theorem sf_163 {x1 : Int32} (H : Q (some (.int (fn_163 h x1))) h o g) : am_X L xs d 163 0 [some (.ref 64), some (.int x1)] [] am_C0 h o g Q T := by
  refine sq_163 ?_
  unfold fn_163 at H
  exact H
def fn_77 (h : am_M) : Int32 := (if (h 61 1) < (h 61 0) then 0 else (((h 61 1) - (h 61 0)) + 1))
theorem sq_77 (H : (if (h 61 1) < (h 61 0) then Q (some (.int 0)) h o g else Q (some (.int (((h 61 1) - (h 61 0)) + 1))) h o g)) : am_X L xs (d + 1) 77 0 [some (.ref 61)] [] am_C0 h o g Q T := by
  refine xo_2 rfl rfl ?_
  refine cl_19_61 rfl hd_77 rfl ?_
  refine xo_2 rfl rfl ?_
  refine xo_13 rfl cf_61_0 ?_
  refine xo_2 rfl rfl ?_
  refine xo_13 rfl cf_61_1 ?_
  refine xo_11le rfl (am_sp ?_ ?_ H)
  · intro hc1 H
    refine xo_0 rfl ?_
    refine xo_12 rfl ?_
    refine xr_42 rfl rfl ?_
    refine xo_10n rfl (by decide) ?_
    refine xo_0 rfl ?_
    refine xo_12 rfl ?_
    refine xo_41 rfl ?_
    exact H
  · intro hc1 H
    refine xo_0 rfl ?_
    refine xr_42 rfl rfl ?_
    refine xo_10 rfl (by decide) ?_
    refine xo_2 rfl rfl ?_
    refine xo_13 rfl cf_61_1 ?_
    refine xo_2 rfl rfl ?_
    refine xo_13 rfl cf_61_0 ?_
    refine xo_7 rfl rfl ?_
    refine xo_0 rfl ?_
    refine xo_7 rfl rfl ?_
    refine xo_41 rfl ?_
    exact H
theorem sf_77 (H : Q (some (.int (fn_77 h))) h o g) : am_X L xs (d + 1) 77 0 [some (.ref 61)] [] am_C0 h o g Q T := by
  refine sq_77 ?_
  unfold fn_77 at H
  by_cases hd0 : (h 61 1) < (h 61 0)
  · rw [if_pos hd0] at H ⊢
    exact H
  · rw [if_neg hd0] at H ⊢
    exact H
def fn_100 (h : am_M) (x1 : Int32) : Int32 := (if (h 61 1) < (h 61 0) then 0 else (if 0 < (((if (x1 - 1) < (h 61 1) then (x1 - 1) else (h 61 1)) - (h 61 0)) + 1) then (((if (x1 - 1) < (h 61 1) then (x1 - 1) else (h 61 1)) - (h 61 0)) + 1) else 0))
theorem sq_100 {x1 : Int32} (H : (if (h 61 1) < (h 61 0) then Q (some (.int 0)) h o g else Q (some (.int (if 0 < (((if (x1 - 1) < (h 61 1) then (x1 - 1) else (h 61 1)) - (h 61 0)) + 1) then (((if (x1 - 1) < (h 61 1) then (x1 - 1) else (h 61 1)) - (h 61 0)) + 1) else 0))) h o g)) : am_X L xs (d + 1) 100 0 [some (.ref 61), some (.int x1)] [] am_C0 h o g Q T := by
  refine xo_2 rfl rfl ?_
  refine cl_19_61 rfl hd_100 rfl ?_
  refine xo_2 rfl rfl ?_
  refine xo_13 rfl cf_61_0 ?_
  refine xo_2 rfl rfl ?_
  refine xo_13 rfl cf_61_1 ?_
  refine xo_11le rfl (am_sp ?_ ?_ H)
  · intro hc1 H
    refine xo_0 rfl ?_
    refine xo_12 rfl ?_
    refine xr_42 rfl rfl ?_
    refine xo_10n rfl (by decide) ?_
    refine xo_0 rfl ?_
    refine xo_12 rfl ?_
    refine xo_41 rfl ?_
    exact H
  · intro hc1 H
    refine xo_0 rfl ?_
    refine xr_42 rfl rfl ?_
    refine xo_10 rfl (by decide) ?_
    refine xo_0 rfl ?_
    refine xo_2 rfl rfl ?_
    refine xo_13 rfl cf_61_1 ?_
    refine xo_1 rfl rfl ?_
    refine xo_0 rfl ?_
    refine xo_7 rfl rfl ?_
    refine xo_47n rfl (Nat.le_of_ble_eq_true rfl) ?_
    refine xo_2 rfl rfl ?_
    refine xo_13 rfl cf_61_0 ?_
    refine xo_7 rfl rfl ?_
    refine xo_0 rfl ?_
    refine xo_7 rfl rfl ?_
    refine xo_47x rfl (Nat.le_of_ble_eq_true rfl) ?_
    refine xo_41 rfl ?_
    exact H
theorem sf_100 {x1 : Int32} (H : Q (some (.int (fn_100 h x1))) h o g) : am_X L xs (d + 1) 100 0 [some (.ref 61), some (.int x1)] [] am_C0 h o g Q T := by
  refine sq_100 ?_
  unfold fn_100 at H
  by_cases hd0 : (h 61 1) < (h 61 0)
  · rw [if_pos hd0] at H ⊢
    exact H
  · rw [if_neg hd0] at H ⊢
    exact H
def fn_183 (x0 : Int32) (x1 : Int32) (x2 : Int32) : Int32 := ((((x0 * 5) + x1) * 3) + x2)
theorem sq_183 {x0 : Int32} {x1 : Int32} {x2 : Int32} (H : Q (some (.int ((((x0 * 5) + x1) * 3) + x2))) h o g) : am_X L xs d 183 0 [some (.int x0), some (.int x1), some (.int x2)] [] am_C0 h o g Q T := by
  refine xo_1 rfl rfl ?_
  refine xo_0 rfl ?_
  refine xo_7 rfl rfl ?_
  refine xo_1 rfl rfl ?_
  refine xo_7 rfl rfl ?_
  refine xo_0 rfl ?_
  refine xo_7 rfl rfl ?_
  refine xo_1 rfl rfl ?_
  refine xo_7 rfl rfl ?_
  refine xo_41 rfl ?_
  exact H
theorem sf_183 {x0 : Int32} {x1 : Int32} {x2 : Int32} (H : Q (some (.int (fn_183 x0 x1 x2))) h o g) : am_X L xs d 183 0 [some (.int x0), some (.int x1), some (.int x2)] [] am_C0 h o g Q T := by
  refine sq_183 ?_
  unfold fn_183 at H
  exact H
def fn_61 (h : am_M) (x1 : Int32) : Int32 := (((h 12 0) * (6 - (if 0 ≤ ((x1 - x1 / 12 * 12) - 6) then ((x1 - x1 / 12 * 12) - 6) else 0 - ((x1 - x1 / 12 * 12) - 6)))) / 6)
theorem sq_61 {x1 : Int32} (H : Q (some (.int (((h 12 0) * (6 - (if 0 ≤ ((x1 - x1 / 12 * 12) - 6) then ((x1 - x1 / 12 * 12) - 6) else 0 - ((x1 - x1 / 12 * 12) - 6)))) / 6))) h o g) : am_X L xs d 61 0 [some (.ref 3), some (.int x1)] [] am_C0 h o g Q T := by
  refine xo_2 rfl rfl ?_
  refine xo_13r rfl cr_3_11 ?_
  refine xo_0 rfl ?_
  refine xo_17 rfl ca_12 (am_ix.lit rfl) ?_
  refine xo_0 rfl ?_
  refine xo_1 rfl rfl ?_
  refine xo_0 rfl ?_
  refine xo_7r rfl (by decide) ?_
  refine xo_0 rfl ?_
  refine xo_7 rfl rfl ?_
  refine xo_47a rfl (Nat.le_of_ble_eq_true rfl) ?_
  refine xo_7 rfl rfl ?_
  refine xo_7 rfl rfl ?_
  refine xo_0 rfl ?_
  refine xo_7d rfl (by decide) ?_
  refine xo_41 rfl ?_
  exact H
theorem sf_61 {x1 : Int32} (H : Q (some (.int (fn_61 h x1))) h o g) : am_X L xs d 61 0 [some (.ref 3), some (.int x1)] [] am_C0 h o g Q T := by
  refine sq_61 ?_
  unfold fn_61 at H
  exact H
def fn_28 (x0 : Int32) : Int32 := (if x0 < 97 then (if x0 < 48 then (if x0 = 32 then 4 else (if x0 = 10 then 4 else (if x0 = 59 then 3 else 5))) else (if 57 < x0 then (if x0 = 32 then 4 else (if x0 = 10 then 4 else (if x0 = 59 then 3 else 5))) else 2)) else (if 122 < x0 then (if x0 < 48 then (if x0 = 32 then 4 else (if x0 = 10 then 4 else (if x0 = 59 then 3 else 5))) else (if 57 < x0 then (if x0 = 32 then 4 else (if x0 = 10 then 4 else (if x0 = 59 then 3 else 5))) else 2)) else 1))
theorem sq_28 {x0 : Int32} (H : (if x0 < 97 then (if x0 < 48 then (if x0 = 32 then Q (some (.int 4)) h o g else (if x0 = 10 then Q (some (.int 4)) h o g else (if x0 = 59 then Q (some (.int 3)) h o g else Q (some (.int 5)) h o g))) else (if 57 < x0 then (if x0 = 32 then Q (some (.int 4)) h o g else (if x0 = 10 then Q (some (.int 4)) h o g else (if x0 = 59 then Q (some (.int 3)) h o g else Q (some (.int 5)) h o g))) else Q (some (.int 2)) h o g)) else (if 122 < x0 then (if x0 < 48 then (if x0 = 32 then Q (some (.int 4)) h o g else (if x0 = 10 then Q (some (.int 4)) h o g else (if x0 = 59 then Q (some (.int 3)) h o g else Q (some (.int 5)) h o g))) else (if 57 < x0 then (if x0 = 32 then Q (some (.int 4)) h o g else (if x0 = 10 then Q (some (.int 4)) h o g else (if x0 = 59 then Q (some (.int 3)) h o g else Q (some (.int 5)) h o g))) else Q (some (.int 2)) h o g)) else Q (some (.int 1)) h o g))) : am_X L xs d 28 0 [some (.int x0)] [] am_C0 h o g Q T := by
  refine xo_1 rfl rfl ?_
  refine xo_0 rfl ?_
  refine xo_11lt rfl (am_sp ?_ ?_ H)
  · intro hc1 H
    refine xo_1 rfl rfl ?_
    refine xo_0 rfl ?_
    refine xo_11lt rfl (am_sp ?_ ?_ H)
    · intro hc2 H
      refine xo_1 rfl rfl ?_
      refine xo_0 rfl ?_
      refine xo_11eq rfl (am_sp ?_ ?_ H)
      · intro hc3 H
        refine xo_0 rfl ?_
        refine xo_41 rfl ?_
        exact H
      · intro hc3 H
        refine xo_1 rfl rfl ?_
        refine xo_0 rfl ?_
        refine xo_11ne rfl (am_sp ?_ ?_ H)
        · intro hc4 H
          refine xo_0 rfl ?_
          refine xo_41 rfl ?_
          exact H
        · intro hc4 H
          refine xo_1 rfl rfl ?_
          refine xo_0 rfl ?_
          refine xo_11ne rfl (am_sp ?_ ?_ H)
          · intro hc5 H
            refine xo_0 rfl ?_
            refine xo_12 rfl ?_
            refine xo_41 rfl ?_
            exact H
          · intro hc5 H
            refine xo_0 rfl ?_
            refine xo_41 rfl ?_
            exact H
    · intro hc2 H
      refine xo_1 rfl rfl ?_
      refine xo_0 rfl ?_
      refine xo_11gt rfl (am_sp ?_ ?_ H)
      · intro hc6 H
        refine xo_1 rfl rfl ?_
        refine xo_0 rfl ?_
        refine xo_11eq rfl (am_sp ?_ ?_ H)
        · intro hc7 H
          refine xo_0 rfl ?_
          refine xo_41 rfl ?_
          exact H
        · intro hc7 H
          refine xo_1 rfl rfl ?_
          refine xo_0 rfl ?_
          refine xo_11ne rfl (am_sp ?_ ?_ H)
          · intro hc8 H
            refine xo_0 rfl ?_
            refine xo_41 rfl ?_
            exact H
          · intro hc8 H
            refine xo_1 rfl rfl ?_
            refine xo_0 rfl ?_
            refine xo_11ne rfl (am_sp ?_ ?_ H)
            · intro hc9 H
              refine xo_0 rfl ?_
              refine xo_12 rfl ?_
              refine xo_41 rfl ?_
              exact H
            · intro hc9 H
              refine xo_0 rfl ?_
              refine xo_41 rfl ?_
              exact H
      · intro hc6 H
        refine xo_0 rfl ?_
        refine xo_41 rfl ?_
        exact H
  · intro hc1 H
    refine xo_1 rfl rfl ?_
    refine xo_0 rfl ?_
    refine xo_11gt rfl (am_sp ?_ ?_ H)
    · intro hc10 H
      refine xo_1 rfl rfl ?_
      refine xo_0 rfl ?_
      refine xo_11lt rfl (am_sp ?_ ?_ H)
      · intro hc11 H
        refine xo_1 rfl rfl ?_
        refine xo_0 rfl ?_
        refine xo_11eq rfl (am_sp ?_ ?_ H)
        · intro hc12 H
          refine xo_0 rfl ?_
          refine xo_41 rfl ?_
          exact H
        · intro hc12 H
          refine xo_1 rfl rfl ?_
          refine xo_0 rfl ?_
          refine xo_11ne rfl (am_sp ?_ ?_ H)
          · intro hc13 H
            refine xo_0 rfl ?_
            refine xo_41 rfl ?_
            exact H
          · intro hc13 H
            refine xo_1 rfl rfl ?_
            refine xo_0 rfl ?_
            refine xo_11ne rfl (am_sp ?_ ?_ H)
            · intro hc14 H
              refine xo_0 rfl ?_
              refine xo_12 rfl ?_
              refine xo_41 rfl ?_
              exact H
            · intro hc14 H
              refine xo_0 rfl ?_
              refine xo_41 rfl ?_
              exact H
      · intro hc11 H
        refine xo_1 rfl rfl ?_
        refine xo_0 rfl ?_
        refine xo_11gt rfl (am_sp ?_ ?_ H)
        · intro hc15 H
          refine xo_1 rfl rfl ?_
          refine xo_0 rfl ?_
          refine xo_11eq rfl (am_sp ?_ ?_ H)
          · intro hc16 H
            refine xo_0 rfl ?_
            refine xo_41 rfl ?_
            exact H
          · intro hc16 H
            refine xo_1 rfl rfl ?_
            refine xo_0 rfl ?_
            refine xo_11ne rfl (am_sp ?_ ?_ H)
            · intro hc17 H
              refine xo_0 rfl ?_
              refine xo_41 rfl ?_
              exact H
            · intro hc17 H
              refine xo_1 rfl rfl ?_
              refine xo_0 rfl ?_
              refine xo_11ne rfl (am_sp ?_ ?_ H)
              · intro hc18 H
                refine xo_0 rfl ?_
                refine xo_12 rfl ?_
                refine xo_41 rfl ?_
                exact H
              · intro hc18 H
                refine xo_0 rfl ?_
                refine xo_41 rfl ?_
                exact H
        · intro hc15 H
          refine xo_0 rfl ?_
          refine xo_41 rfl ?_
          exact H
    · intro hc10 H
      refine xo_0 rfl ?_
      refine xo_41 rfl ?_
      exact H
theorem sf_28 {x0 : Int32} (H : Q (some (.int (fn_28 x0))) h o g) : am_X L xs d 28 0 [some (.int x0)] [] am_C0 h o g Q T := by
  refine sq_28 ?_
  unfold fn_28 at H
  by_cases hd0 : x0 < 97
  · rw [if_pos hd0] at H ⊢
    by_cases hd1 : x0 < 48
    · rw [if_pos hd1] at H ⊢
      by_cases hd2 : x0 = 32
      · rw [if_pos hd2] at H ⊢
        exact H
      · rw [if_neg hd2] at H ⊢
        by_cases hd3 : x0 = 10
        · rw [if_pos hd3] at H ⊢
          exact H
        · rw [if_neg hd3] at H ⊢
          by_cases hd4 : x0 = 59
          · rw [if_pos hd4] at H ⊢
            exact H
          · rw [if_neg hd4] at H ⊢
            exact H
    · rw [if_neg hd1] at H ⊢
      by_cases hd2 : 57 < x0
      · rw [if_pos hd2] at H ⊢
        by_cases hd3 : x0 = 32
        · rw [if_pos hd3] at H ⊢
          exact H
        · rw [if_neg hd3] at H ⊢
          by_cases hd4 : x0 = 10
          · rw [if_pos hd4] at H ⊢
            exact H
          · rw [if_neg hd4] at H ⊢
            by_cases hd5 : x0 = 59
            · rw [if_pos hd5] at H ⊢
              exact H
            · rw [if_neg hd5] at H ⊢
              exact H
      · rw [if_neg hd2] at H ⊢
        exact H
  · rw [if_neg hd0] at H ⊢
    by_cases hd1 : 122 < x0
    · rw [if_pos hd1] at H ⊢
      by_cases hd2 : x0 < 48
      · rw [if_pos hd2] at H ⊢
        by_cases hd3 : x0 = 32
        · rw [if_pos hd3] at H ⊢
          exact H
        · rw [if_neg hd3] at H ⊢
          by_cases hd4 : x0 = 10
          · rw [if_pos hd4] at H ⊢
            exact H
          · rw [if_neg hd4] at H ⊢
            by_cases hd5 : x0 = 59
            · rw [if_pos hd5] at H ⊢
              exact H
            · rw [if_neg hd5] at H ⊢
              exact H
      · rw [if_neg hd2] at H ⊢
        by_cases hd3 : 57 < x0
        · rw [if_pos hd3] at H ⊢
          by_cases hd4 : x0 = 32
          · rw [if_pos hd4] at H ⊢
            exact H
          · rw [if_neg hd4] at H ⊢
            by_cases hd5 : x0 = 10
            · rw [if_pos hd5] at H ⊢
              exact H
            · rw [if_neg hd5] at H ⊢
              by_cases hd6 : x0 = 59
              · rw [if_pos hd6] at H ⊢
                exact H
              · rw [if_neg hd6] at H ⊢
                exact H
        · rw [if_neg hd3] at H ⊢
          exact H
    · rw [if_neg hd1] at H ⊢
      exact H
