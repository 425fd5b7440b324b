set_option maxRecDepth 1000000 in
theorem mj_k64 : mj_ckm 64 = true := by decide +kernel
set_option maxRecDepth 1000000 in
theorem mj_k65 : mj_ckm 65 = true := by decide +kernel
set_option maxRecDepth 1000000 in
theorem mj_k66 : mj_ckm 66 = true := by decide +kernel
set_option maxRecDepth 1000000 in
theorem mj_k67 : mj_ckm 67 = true := by decide +kernel
set_option maxRecDepth 1000000 in
theorem mj_k68 : mj_ckm 68 = true := by decide +kernel
set_option maxRecDepth 1000000 in
theorem mj_k69 : mj_ckm 69 = true := by decide +kernel
set_option maxRecDepth 1000000 in
theorem mj_k70 : mj_ckm 70 = true := by decide +kernel
set_option maxRecDepth 1000000 in
theorem mj_k71 : mj_ckm 71 = true := by decide +kernel
set_option maxRecDepth 1000000 in
theorem mj_k72 : mj_ckm 72 = true := by decide +kernel
set_option maxRecDepth 1000000 in
theorem mj_k73 : mj_ckm 73 = true := by decide +kernel
set_option maxRecDepth 1000000 in
theorem mj_k74 : mj_ckm 74 = true := by decide +kernel
set_option maxRecDepth 1000000 in
theorem mj_k75 : mj_ckm 75 = true := by decide +kernel
set_option maxRecDepth 1000000 in
theorem mj_k76 : mj_ckm 76 = true := by decide +kernel
set_option maxRecDepth 1000000 in
theorem mj_k77 : mj_ckm 77 = true := by decide +kernel
set_option maxRecDepth 1000000 in
theorem mj_k78 : mj_ckm 78 = true := by decide +kernel
set_option maxRecDepth 1000000 in
theorem mj_k79 : mj_ckm 79 = true := by decide +kernel
set_option maxRecDepth 1000000 in
theorem mj_k80 : mj_ckm 80 = true := by decide +kernel
set_option maxRecDepth 1000000 in
theorem mj_k81 : mj_ckm 81 = true := by decide +kernel
set_option maxRecDepth 1000000 in
theorem mj_k82 : mj_ckm 82 = true := by decide +kernel
set_option maxRecDepth 1000000 in
theorem mj_k83 : mj_ckm 83 = true := by decide +kernel
set_option maxRecDepth 1000000 in
theorem mj_k84 : mj_ckm 84 = true := by decide +kernel
set_option maxRecDepth 1000000 in
theorem mj_k85 : mj_ckm 85 = true := by decide +kernel
set_option maxRecDepth 1000000 in
theorem mj_k86 : mj_ckm 86 = true := by decide +kernel
