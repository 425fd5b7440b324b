set_option maxRecDepth 1000000 in
theorem mj_k153 : mj_ckm 153 = true := by decide +kernel
set_option maxRecDepth 1000000 in
theorem mj_k154 : mj_ckm 154 = true := by decide +kernel
set_option maxRecDepth 1000000 in
theorem mj_k155 : mj_ckm 155 = true := by decide +kernel
set_option maxRecDepth 1000000 in
theorem mj_k156 : mj_ckm 156 = true := by decide +kernel
set_option maxRecDepth 1000000 in
theorem mj_k157 : mj_ckm 157 = true := by decide +kernel
set_option maxRecDepth 1000000 in
theorem mj_k158 : mj_ckm 158 = true := by decide +kernel
set_option maxRecDepth 1000000 in
theorem mj_k159 : mj_ckm 159 = true := by decide +kernel
set_option maxRecDepth 1000000 in
theorem mj_k160 : mj_ckm 160 = true := by decide +kernel
set_option maxRecDepth 1000000 in
theorem mj_k161 : mj_ckm 161 = true := by decide +kernel
set_option maxRecDepth 1000000 in
theorem mj_k162 : mj_ckm 162 = true := by decide +kernel
set_option maxRecDepth 1000000 in
theorem mj_k163 : mj_ckm 163 = true := by decide +kernel
set_option maxRecDepth 1000000 in
theorem mj_k164 : mj_ckm 164 = true := by decide +kernel
set_option maxRecDepth 1000000 in
theorem mj_k165 : mj_ckm 165 = true := by decide +kernel
set_option maxRecDepth 1000000 in
theorem mj_k166 : mj_ckm 166 = true := by decide +kernel
set_option maxRecDepth 1000000 in
theorem mj_k167 : mj_ckm 167 = true := by decide +kernel
set_option maxRecDepth 1000000 in
theorem mj_k168 : mj_ckm 168 = true := by decide +kernel
set_option maxRecDepth 1000000 in
theorem mj_k169 : mj_ckm 169 = true := by decide +kernel
set_option maxRecDepth 1000000 in
theorem mj_k170 : mj_ckm 170 = true := by decide +kernel
set_option maxRecDepth 1000000 in
theorem mj_k171 : mj_ckm 171 = true := by decide +kernel
set_option maxRecDepth 1000000 in
theorem mj_k172 : mj_ckm 172 = true := by decide +kernel
set_option maxRecDepth 1000000 in
theorem mj_k173 : mj_ckm 173 = true := by decide +kernel
set_option maxRecDepth 1000000 in
theorem mj_k174 : mj_ckm 174 = true := by decide +kernel
set_option maxRecDepth 1000000 in
theorem mj_k175 : mj_ckm 175 = true := by decide +kernel
set_option maxRecDepth 1000000 in
theorem mj_k176 : mj_ckm 176 = true := by decide +kernel
