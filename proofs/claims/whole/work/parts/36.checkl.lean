set_option maxRecDepth 100000 in
theorem am_cl_10 : am_okR 0 1000 100 = true := by decide +kernel
set_option maxRecDepth 100000 in
theorem am_cl_11 : am_okR 0 1100 100 = true := by decide +kernel
set_option maxRecDepth 100000 in
theorem am_cl_12 : am_okR 0 1200 100 = true := by decide +kernel
set_option maxRecDepth 100000 in
theorem am_cl_13 : am_okR 0 1300 100 = true := by decide +kernel
set_option maxRecDepth 100000 in
theorem am_cl_14 : am_okR 0 1400 100 = true := by decide +kernel
