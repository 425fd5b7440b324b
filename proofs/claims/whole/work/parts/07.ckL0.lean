set_option maxRecDepth 1000000 in
theorem mj_kL0 : mj_ckr 0 0 120 = true := by decide +kernel
set_option maxRecDepth 1000000 in
theorem mj_kL1 : mj_ckr 0 120 120 = true := by decide +kernel
set_option maxRecDepth 1000000 in
theorem mj_kL2 : mj_ckr 0 240 120 = true := by decide +kernel
set_option maxRecDepth 1000000 in
theorem mj_kL3 : mj_ckr 0 360 120 = true := by decide +kernel
