set_option maxRecDepth 100000 in
theorem am_cl_5 : am_okR 0 500 100 = true := by decide +kernel
set_option maxRecDepth 100000 in
theorem am_cl_6 : am_okR 0 600 100 = true := by decide +kernel
set_option maxRecDepth 100000 in
theorem am_cl_7 : am_okR 0 700 100 = true := by decide +kernel
set_option maxRecDepth 100000 in
theorem am_cl_8 : am_okR 0 800 100 = true := by decide +kernel
set_option maxRecDepth 100000 in
theorem am_cl_9 : am_okR 0 900 100 = true := by decide +kernel
