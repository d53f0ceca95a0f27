set_option maxRecDepth 100000 in
theorem t1 : lj_law_8 (some ()) f0 = some () := by decide +kernel
