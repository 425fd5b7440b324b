set_option maxRecDepth 1000000 in
theorem mj_kL8 : mj_ckr 0 960 120 = true := by decide +kernel
set_option maxRecDepth 1000000 in
theorem mj_kL9 : mj_ckr 0 1080 120 = true := by decide +kernel
set_option maxRecDepth 1000000 in
theorem mj_kL10 : mj_ckr 0 1200 120 = true := by decide +kernel
set_option maxRecDepth 1000000 in
theorem mj_kL11 : mj_ckr 0 1320 120 = true := by decide +kernel
