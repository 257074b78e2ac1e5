set_option maxRecDepth 100000 in
theorem am_cl_15 : am_okR 0 1500 100 = true := by decide +kernel
set_option maxRecDepth 100000 in
theorem am_cl_16 : am_okR 0 1600 100 = true := by decide +kernel
set_option maxRecDepth 100000 in
theorem am_cl_17 : am_okR 0 1700 100 = true := by decide +kernel
set_option maxRecDepth 100000 in
theorem am_cl_18 : am_okR 0 1800 100 = true := by decide +kernel
set_option maxRecDepth 100000 in
theorem am_cl_19 : am_okR 0 1900 63 = true := by decide +kernel
