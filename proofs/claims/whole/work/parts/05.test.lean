set_option maxRecDepth 100000 in
theorem zz_t1 : ((am_run 0 (fun _ => 0) 1000 20 0 0 (am_ent [.ref am_scr] 7) [] [] (fun _ _ => 0) (fun _ _ => 0) 0).map fun q => (q.1, q.2.1.length)) = some (.inr (some (.int 1)), 109) := by decide +kernel
set_option maxRecDepth 100000 in
theorem zz_t2 : ((List.range 20).map (fun k => am_okP (k + 1))) = List.replicate 20 true := by decide +kernel
