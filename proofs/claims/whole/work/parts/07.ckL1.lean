set_option maxRecDepth 1000000 in
theorem mj_kL4 : mj_ckr 0 480 120 = true := by decide +kernel
set_option maxRecDepth 1000000 in
theorem mj_kL5 : mj_ckr 0 600 120 = true := by decide +kernel
set_option maxRecDepth 1000000 in
theorem mj_kL6 : mj_ckr 0 720 120 = true := by decide +kernel
set_option maxRecDepth 1000000 in
theorem mj_kL7 : mj_ckr 0 840 120 = true := by decide +kernel
