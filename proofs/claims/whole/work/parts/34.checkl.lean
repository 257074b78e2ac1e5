def am_okR (mi a n : Nat) : Bool := (List.range n).all fun k => match am_P mi (a + k) with | none => true | some e => am_okE mi (a + k) e
set_option maxRecDepth 100000 in
theorem am_cl_0 : am_okR 0 0 100 = true := by decide +kernel
set_option maxRecDepth 100000 in
theorem am_cl_1 : am_okR 0 100 100 = true := by decide +kernel
set_option maxRecDepth 100000 in
theorem am_cl_2 : am_okR 0 200 100 = true := by decide +kernel
set_option maxRecDepth 100000 in
theorem am_cl_3 : am_okR 0 300 100 = true := by decide +kernel
set_option maxRecDepth 100000 in
theorem am_cl_4 : am_okR 0 400 100 = true := by decide +kernel
