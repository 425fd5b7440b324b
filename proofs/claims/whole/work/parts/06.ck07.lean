set_option maxRecDepth 1000000 in
theorem mj_k226 : mj_ckm 226 = true := by decide +kernel
set_option maxRecDepth 1000000 in
theorem mj_k227 : mj_ckm 227 = true := by decide +kernel
set_option maxRecDepth 1000000 in
theorem mj_k228 : mj_ckm 228 = true := by decide +kernel
set_option maxRecDepth 1000000 in
theorem mj_k229 : mj_ckm 229 = true := by decide +kernel
set_option maxRecDepth 1000000 in
theorem mj_k230 : mj_ckm 230 = true := by decide +kernel
