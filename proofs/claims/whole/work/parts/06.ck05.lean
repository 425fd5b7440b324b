set_option maxRecDepth 1000000 in
theorem mj_k177 : mj_ckm 177 = true := by decide +kernel
set_option maxRecDepth 1000000 in
theorem mj_k178 : mj_ckm 178 = true := by decide +kernel
set_option maxRecDepth 1000000 in
theorem mj_k179 : mj_ckm 179 = true := by decide +kernel
set_option maxRecDepth 1000000 in
theorem mj_k180 : mj_ckm 180 = true := by decide +kernel
set_option maxRecDepth 1000000 in
theorem mj_k181 : mj_ckm 181 = true := by decide +kernel
set_option maxRecDepth 1000000 in
theorem mj_k182 : mj_ckm 182 = true := by decide +kernel
set_option maxRecDepth 1000000 in
theorem mj_k183 : mj_ckm 183 = true := by decide +kernel
set_option maxRecDepth 1000000 in
theorem mj_k184 : mj_ckm 184 = true := by decide +kernel
set_option maxRecDepth 1000000 in
theorem mj_k185 : mj_ckm 185 = true := by decide +kernel
set_option maxRecDepth 1000000 in
theorem mj_k186 : mj_ckm 186 = true := by decide +kernel
set_option maxRecDepth 1000000 in
theorem mj_k187 : mj_ckm 187 = true := by decide +kernel
set_option maxRecDepth 1000000 in
theorem mj_k188 : mj_ckm 188 = true := by decide +kernel
set_option maxRecDepth 1000000 in
theorem mj_k189 : mj_ckm 189 = true := by decide +kernel
set_option maxRecDepth 1000000 in
theorem mj_k190 : mj_ckm 190 = true := by decide +kernel
set_option maxRecDepth 1000000 in
theorem mj_k191 : mj_ckm 191 = true := by decide +kernel
set_option maxRecDepth 1000000 in
theorem mj_k192 : mj_ckm 192 = true := by decide +kernel
set_option maxRecDepth 1000000 in
theorem mj_k193 : mj_ckm 193 = true := by decide +kernel
set_option maxRecDepth 1000000 in
theorem mj_k194 : mj_ckm 194 = true := by decide +kernel
set_option maxRecDepth 1000000 in
theorem mj_k195 : mj_ckm 195 = true := by decide +kernel
set_option maxRecDepth 1000000 in
theorem mj_k196 : mj_ckm 196 = true := by decide +kernel
