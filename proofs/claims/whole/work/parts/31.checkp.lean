set_option maxRecDepth 100000 in
theorem am_cp_0 : ((List.range 12).all (fun k => am_okP (k + 1))) = true := by decide +kernel
set_option maxRecDepth 100000 in
theorem am_cp_1 : ((List.range 12).all (fun k => am_okP (k + 13))) = true := by decide +kernel
set_option maxRecDepth 100000 in
theorem am_cp_2 : ((List.range 11).all (fun k => am_okP (k + 25))) = true := by decide +kernel
set_option maxRecDepth 100000 in
theorem am_cp_3 : ((List.range 12).all (fun k => am_okP (k + 36))) = true := by decide +kernel
set_option maxRecDepth 100000 in
theorem am_cp_4 : ((List.range 12).all (fun k => am_okP (k + 48))) = true := by decide +kernel
set_option maxRecDepth 100000 in
theorem am_cp_5 : ((List.range 12).all (fun k => am_okP (k + 60))) = true := by decide +kernel
set_option maxRecDepth 100000 in
theorem am_cp_6 : ((List.range 12).all (fun k => am_okP (k + 72))) = true := by decide +kernel
