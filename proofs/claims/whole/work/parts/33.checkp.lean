set_option maxRecDepth 100000 in
theorem am_cp_14 : ((List.range 12).all (fun k => am_okP (k + 165))) = true := by decide +kernel
set_option maxRecDepth 100000 in
theorem am_cp_15 : ((List.range 12).all (fun k => am_okP (k + 177))) = true := by decide +kernel
set_option maxRecDepth 100000 in
theorem am_cp_16 : ((List.range 8).all (fun k => am_okP (k + 189))) = true := by decide +kernel
set_option maxRecDepth 100000 in
theorem am_cp_17 : ((List.range 7).all (fun k => am_okP (k + 197))) = true := by decide +kernel
set_option maxRecDepth 100000 in
theorem am_cp_18 : ((List.range 1).all (fun k => am_okP (k + 204))) = true := by decide +kernel
