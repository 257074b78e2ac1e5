set_option maxRecDepth 100000 in
theorem am_cp_7 : ((List.range 10).all (fun k => am_okP (k + 84))) = true := by decide +kernel
set_option maxRecDepth 100000 in
theorem am_cp_8 : ((List.range 12).all (fun k => am_okP (k + 94))) = true := by decide +kernel
set_option maxRecDepth 100000 in
theorem am_cp_9 : ((List.range 12).all (fun k => am_okP (k + 106))) = true := by decide +kernel
set_option maxRecDepth 100000 in
theorem am_cp_10 : ((List.range 12).all (fun k => am_okP (k + 118))) = true := by decide +kernel
set_option maxRecDepth 100000 in
theorem am_cp_11 : ((List.range 11).all (fun k => am_okP (k + 130))) = true := by decide +kernel
set_option maxRecDepth 100000 in
theorem am_cp_12 : ((List.range 12).all (fun k => am_okP (k + 141))) = true := by decide +kernel
set_option maxRecDepth 100000 in
theorem am_cp_13 : ((List.range 12).all (fun k => am_okP (k + 153))) = true := by decide +kernel
