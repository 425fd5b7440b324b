set_option maxRecDepth 1000000 in
theorem mj_k1 : mj_ckm 1 = true := by decide +kernel
set_option maxRecDepth 1000000 in
theorem mj_k2 : mj_ckm 2 = true := by decide +kernel
set_option maxRecDepth 1000000 in
theorem mj_k3 : mj_ckm 3 = true := by decide +kernel
set_option maxRecDepth 1000000 in
theorem mj_k4 : mj_ckm 4 = true := by decide +kernel
set_option maxRecDepth 1000000 in
theorem mj_k5 : mj_ckm 5 = true := by decide +kernel
set_option maxRecDepth 1000000 in
theorem mj_k6 : mj_ckm 6 = true := by decide +kernel
set_option maxRecDepth 1000000 in
theorem mj_k7 : mj_ckm 7 = true := by decide +kernel
set_option maxRecDepth 1000000 in
theorem mj_k8 : mj_ckm 8 = true := by decide +kernel
set_option maxRecDepth 1000000 in
theorem mj_k9 : mj_ckm 9 = true := by decide +kernel
set_option maxRecDepth 1000000 in
theorem mj_k10 : mj_ckm 10 = true := by decide +kernel
set_option maxRecDepth 1000000 in
theorem mj_k11 : mj_ckm 11 = true := by decide +kernel
set_option maxRecDepth 1000000 in
theorem mj_k12 : mj_ckm 12 = true := by decide +kernel
set_option maxRecDepth 1000000 in
theorem mj_k13 : mj_ckm 13 = true := by decide +kernel
set_option maxRecDepth 1000000 in
theorem mj_k14 : mj_ckm 14 = true := by decide +kernel
set_option maxRecDepth 1000000 in
theorem mj_k15 : mj_ckm 15 = true := by decide +kernel
set_option maxRecDepth 1000000 in
theorem mj_k16 : mj_ckm 16 = true := by decide +kernel
set_option maxRecDepth 1000000 in
theorem mj_k17 : mj_ckm 17 = true := by decide +kernel
set_option maxRecDepth 1000000 in
theorem mj_k18 : mj_ckm 18 = true := by decide +kernel
set_option maxRecDepth 1000000 in
theorem mj_k19 : mj_ckm 19 = true := by decide +kernel
set_option maxRecDepth 1000000 in
theorem mj_k20 : mj_ckm 20 = true := by decide +kernel
set_option maxRecDepth 1000000 in
theorem mj_k21 : mj_ckm 21 = true := by decide +kernel
set_option maxRecDepth 1000000 in
theorem mj_k22 : mj_ckm 22 = true := by decide +kernel
set_option maxRecDepth 1000000 in
theorem mj_k23 : mj_ckm 23 = true := by decide +kernel
set_option maxRecDepth 1000000 in
theorem mj_k24 : mj_ckm 24 = true := by decide +kernel
set_option maxRecDepth 1000000 in
theorem mj_k25 : mj_ckm 25 = true := by decide +kernel
set_option maxRecDepth 1000000 in
theorem mj_k26 : mj_ckm 26 = true := by decide +kernel
set_option maxRecDepth 1000000 in
theorem mj_k27 : mj_ckm 27 = true := by decide +kernel
set_option maxRecDepth 1000000 in
theorem mj_k28 : mj_ckm 28 = true := by decide +kernel
set_option maxRecDepth 1000000 in
theorem mj_k29 : mj_ckm 29 = true := by decide +kernel
set_option maxRecDepth 1000000 in
theorem mj_k30 : mj_ckm 30 = true := by decide +kernel
set_option maxRecDepth 1000000 in
theorem mj_k31 : mj_ckm 31 = true := by decide +kernel
set_option maxRecDepth 1000000 in
theorem mj_k32 : mj_ckm 32 = true := by decide +kernel
set_option maxRecDepth 1000000 in
theorem mj_k33 : mj_ckm 33 = true := by decide +kernel
set_option maxRecDepth 1000000 in
theorem mj_k34 : mj_ckm 34 = true := by decide +kernel
set_option maxRecDepth 1000000 in
theorem mj_k35 : mj_ckm 35 = true := by decide +kernel
set_option maxRecDepth 1000000 in
theorem mj_k36 : mj_ckm 36 = true := by decide +kernel
set_option maxRecDepth 1000000 in
theorem mj_k37 : mj_ckm 37 = true := by decide +kernel
set_option maxRecDepth 1000000 in
theorem mj_k38 : mj_ckm 38 = true := by decide +kernel
set_option maxRecDepth 1000000 in
theorem mj_k39 : mj_ckm 39 = true := by decide +kernel
set_option maxRecDepth 1000000 in
theorem mj_k40 : mj_ckm 40 = true := by decide +kernel
set_option maxRecDepth 1000000 in
theorem mj_k41 : mj_ckm 41 = true := by decide +kernel
set_option maxRecDepth 1000000 in
theorem mj_k42 : mj_ckm 42 = true := by decide +kernel
set_option maxRecDepth 1000000 in
theorem mj_k43 : mj_ckm 43 = true := by decide +kernel
set_option maxRecDepth 1000000 in
theorem mj_k44 : mj_ckm 44 = true := by decide +kernel
set_option maxRecDepth 1000000 in
theorem mj_k45 : mj_ckm 45 = true := by decide +kernel
set_option maxRecDepth 1000000 in
theorem mj_k46 : mj_ckm 46 = true := by decide +kernel
set_option maxRecDepth 1000000 in
theorem mj_k47 : mj_ckm 47 = true := by decide +kernel
set_option maxRecDepth 1000000 in
theorem mj_k48 : mj_ckm 48 = true := by decide +kernel
set_option maxRecDepth 1000000 in
theorem mj_k49 : mj_ckm 49 = true := by decide +kernel
set_option maxRecDepth 1000000 in
theorem mj_k50 : mj_ckm 50 = true := by decide +kernel
set_option maxRecDepth 1000000 in
theorem mj_k51 : mj_ckm 51 = true := by decide +kernel
set_option maxRecDepth 1000000 in
theorem mj_k52 : mj_ckm 52 = true := by decide +kernel
set_option maxRecDepth 1000000 in
theorem mj_k53 : mj_ckm 53 = true := by decide +kernel
set_option maxRecDepth 1000000 in
theorem mj_k54 : mj_ckm 54 = true := by decide +kernel
set_option maxRecDepth 1000000 in
theorem mj_k55 : mj_ckm 55 = true := by decide +kernel
set_option maxRecDepth 1000000 in
theorem mj_k56 : mj_ckm 56 = true := by decide +kernel
set_option maxRecDepth 1000000 in
theorem mj_k57 : mj_ckm 57 = true := by decide +kernel
set_option maxRecDepth 1000000 in
theorem mj_k58 : mj_ckm 58 = true := by decide +kernel
set_option maxRecDepth 1000000 in
theorem mj_k59 : mj_ckm 59 = true := by decide +kernel
set_option maxRecDepth 1000000 in
theorem mj_k60 : mj_ckm 60 = true := by decide +kernel
set_option maxRecDepth 1000000 in
theorem mj_k61 : mj_ckm 61 = true := by decide +kernel
set_option maxRecDepth 1000000 in
theorem mj_k62 : mj_ckm 62 = true := by decide +kernel
set_option maxRecDepth 1000000 in
theorem mj_k63 : mj_ckm 63 = true := by decide +kernel
