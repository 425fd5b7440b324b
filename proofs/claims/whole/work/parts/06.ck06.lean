set_option maxRecDepth 1000000 in
theorem mj_k197 : mj_ckm 197 = true := by decide +kernel
set_option maxRecDepth 1000000 in
theorem mj_k198 : mj_ckm 198 = true := by decide +kernel
set_option maxRecDepth 1000000 in
theorem mj_k199 : mj_ckm 199 = true := by decide +kernel
set_option maxRecDepth 1000000 in
theorem mj_k200 : mj_ckm 200 = true := by decide +kernel
set_option maxRecDepth 1000000 in
theorem mj_k201 : mj_ckm 201 = true := by decide +kernel
set_option maxRecDepth 1000000 in
theorem mj_k202 : mj_ckm 202 = true := by decide +kernel
set_option maxRecDepth 1000000 in
theorem mj_k203 : mj_ckm 203 = true := by decide +kernel
set_option maxRecDepth 1000000 in
theorem mj_k204 : mj_ckm 204 = true := by decide +kernel
set_option maxRecDepth 1000000 in
theorem mj_k205 : mj_ckm 205 = true := by decide +kernel
set_option maxRecDepth 1000000 in
theorem mj_k206 : mj_ckm 206 = true := by decide +kernel
set_option maxRecDepth 1000000 in
theorem mj_k207 : mj_ckm 207 = true := by decide +kernel
set_option maxRecDepth 1000000 in
theorem mj_k208 : mj_ckm 208 = true := by decide +kernel
set_option maxRecDepth 1000000 in
theorem mj_k209 : mj_ckm 209 = true := by decide +kernel
set_option maxRecDepth 1000000 in
theorem mj_k210 : mj_ckm 210 = true := by decide +kernel
set_option maxRecDepth 1000000 in
theorem mj_k211 : mj_ckm 211 = true := by decide +kernel
set_option maxRecDepth 1000000 in
theorem mj_k212 : mj_ckm 212 = true := by decide +kernel
set_option maxRecDepth 1000000 in
theorem mj_k213 : mj_ckm 213 = true := by decide +kernel
set_option maxRecDepth 1000000 in
theorem mj_k214 : mj_ckm 214 = true := by decide +kernel
set_option maxRecDepth 1000000 in
theorem mj_k215 : mj_ckm 215 = true := by decide +kernel
set_option maxRecDepth 1000000 in
theorem mj_k216 : mj_ckm 216 = true := by decide +kernel
set_option maxRecDepth 1000000 in
theorem mj_k217 : mj_ckm 217 = true := by decide +kernel
set_option maxRecDepth 1000000 in
theorem mj_k218 : mj_ckm 218 = true := by decide +kernel
set_option maxRecDepth 1000000 in
theorem mj_k219 : mj_ckm 219 = true := by decide +kernel
set_option maxRecDepth 1000000 in
theorem mj_k220 : mj_ckm 220 = true := by decide +kernel
set_option maxRecDepth 1000000 in
theorem mj_k221 : mj_ckm 221 = true := by decide +kernel
set_option maxRecDepth 1000000 in
theorem mj_k222 : mj_ckm 222 = true := by decide +kernel
set_option maxRecDepth 1000000 in
theorem mj_k223 : mj_ckm 223 = true := by decide +kernel
set_option maxRecDepth 1000000 in
theorem mj_k224 : mj_ckm 224 = true := by decide +kernel
set_option maxRecDepth 1000000 in
theorem mj_k225 : mj_ckm 225 = true := by decide +kernel
