set_option maxRecDepth 1000000 in
theorem mj_k87 : mj_ckm 87 = true := by decide +kernel
set_option maxRecDepth 1000000 in
theorem mj_k88 : mj_ckm 88 = true := by decide +kernel
set_option maxRecDepth 1000000 in
theorem mj_k89 : mj_ckm 89 = true := by decide +kernel
set_option maxRecDepth 1000000 in
theorem mj_k90 : mj_ckm 90 = true := by decide +kernel
set_option maxRecDepth 1000000 in
theorem mj_k91 : mj_ckm 91 = true := by decide +kernel
set_option maxRecDepth 1000000 in
theorem mj_k92 : mj_ckm 92 = true := by decide +kernel
set_option maxRecDepth 1000000 in
theorem mj_k93 : mj_ckm 93 = true := by decide +kernel
set_option maxRecDepth 1000000 in
theorem mj_k94 : mj_ckm 94 = true := by decide +kernel
set_option maxRecDepth 1000000 in
theorem mj_k95 : mj_ckm 95 = true := by decide +kernel
set_option maxRecDepth 1000000 in
theorem mj_k96 : mj_ckm 96 = true := by decide +kernel
set_option maxRecDepth 1000000 in
theorem mj_k97 : mj_ckm 97 = true := by decide +kernel
set_option maxRecDepth 1000000 in
theorem mj_k98 : mj_ckm 98 = true := by decide +kernel
set_option maxRecDepth 1000000 in
theorem mj_k99 : mj_ckm 99 = true := by decide +kernel
set_option maxRecDepth 1000000 in
theorem mj_k100 : mj_ckm 100 = true := by decide +kernel
set_option maxRecDepth 1000000 in
theorem mj_k101 : mj_ckm 101 = true := by decide +kernel
set_option maxRecDepth 1000000 in
theorem mj_k102 : mj_ckm 102 = true := by decide +kernel
set_option maxRecDepth 1000000 in
theorem mj_k103 : mj_ckm 103 = true := by decide +kernel
set_option maxRecDepth 1000000 in
theorem mj_k104 : mj_ckm 104 = true := by decide +kernel
set_option maxRecDepth 1000000 in
theorem mj_k105 : mj_ckm 105 = true := by decide +kernel
set_option maxRecDepth 1000000 in
theorem mj_k106 : mj_ckm 106 = true := by decide +kernel
set_option maxRecDepth 1000000 in
theorem mj_k107 : mj_ckm 107 = true := by decide +kernel
set_option maxRecDepth 1000000 in
theorem mj_k108 : mj_ckm 108 = true := by decide +kernel
