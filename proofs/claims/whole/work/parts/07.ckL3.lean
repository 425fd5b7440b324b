set_option maxRecDepth 1000000 in
theorem mj_kL12 : mj_ckr 0 1440 120 = true := by decide +kernel
set_option maxRecDepth 1000000 in
theorem mj_kL13 : mj_ckr 0 1560 8 = true := by decide +kernel
