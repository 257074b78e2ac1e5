set_option maxRecDepth 100000 in
theorem ini_ok : ini_b = true := by decide +kernel
