/-! ===== what a method can throw, seen from its text ===== -/
def th_l : List Nat := [0, 0, 0, 0, 0, 0, 0, 0, 16, 16, 16, 16, 16, 16, 16, 16, 16, 16, 16, 16, 16, 16, 16, 0, 18, 16, 16, 16, 16, 16, 16, 16, 16, 16, 16, 16, 16, 16, 16, 16, 16, 0, 17, 0, 17, 17, 16, 16, 0, 17, 17, 17, 16, 16, 16, 0, 17, 17, 17, 17, 16, 16, 0, 17, 0, 17, 16, 16, 16, 16, 16, 0, 17, 0, 19, 18, 16, 16, 0, 19, 16, 16, 16, 0, 17, 16, 16, 16, 16, 16, 16, 16, 16, 16, 0, 17, 0, 19, 18, 16, 16, 16, 0, 19, 16, 16, 16, 0, 17, 0, 17, 0, 17, 0, 19, 16, 16, 16, 0, 17, 17, 0, 17, 16, 16, 16, 16, 16, 16, 0]
def th (mi : Nat) : Nat := th_l.getD mi 0
def th_e (t : Nat) (e : am_E) : Bool := match e with
  | (op, a, _, _, _) => bif Nat.beq op 45 then Nat.testBit t a else bif (Nat.beq op 36 || Nat.beq op 53) then (Nat.ble 16 (th a) && Nat.beq (Nat.lor (th a) t) t) else true
def th_m (mi : Nat) : Bool := bif Nat.ble 16 (th mi) then (List.range 1963).all (fun pc => match am_P mi pc with | none => true | some e => th_e (th mi) e) else true
set_option maxRecDepth 100000 in
theorem th_c0 : ((List.range 10).all fun k => th_m (k + 0)) = true := by decide +kernel
set_option maxRecDepth 100000 in
theorem th_c1 : ((List.range 10).all fun k => th_m (k + 10)) = true := by decide +kernel
set_option maxRecDepth 100000 in
theorem th_c2 : ((List.range 10).all fun k => th_m (k + 20)) = true := by decide +kernel
set_option maxRecDepth 100000 in
theorem th_c3 : ((List.range 10).all fun k => th_m (k + 30)) = true := by decide +kernel
set_option maxRecDepth 100000 in
theorem th_c4 : ((List.range 10).all fun k => th_m (k + 40)) = true := by decide +kernel
set_option maxRecDepth 100000 in
theorem th_c5 : ((List.range 10).all fun k => th_m (k + 50)) = true := by decide +kernel
set_option maxRecDepth 100000 in
theorem th_c6 : ((List.range 10).all fun k => th_m (k + 60)) = true := by decide +kernel
set_option maxRecDepth 100000 in
theorem th_c7 : ((List.range 10).all fun k => th_m (k + 70)) = true := by decide +kernel
set_option maxRecDepth 100000 in
theorem th_c8 : ((List.range 10).all fun k => th_m (k + 80)) = true := by decide +kernel
set_option maxRecDepth 100000 in
theorem th_c9 : ((List.range 10).all fun k => th_m (k + 90)) = true := by decide +kernel
set_option maxRecDepth 100000 in
theorem th_c10 : ((List.range 10).all fun k => th_m (k + 100)) = true := by decide +kernel
set_option maxRecDepth 100000 in
theorem th_c11 : ((List.range 10).all fun k => th_m (k + 110)) = true := by decide +kernel
set_option maxRecDepth 100000 in
theorem th_c12 : ((List.range 10).all fun k => th_m (k + 120)) = true := by decide +kernel
