set_option maxRecDepth 1000000 in
theorem mj_k109 : mj_ckm 109 = true := by decide +kernel
set_option maxRecDepth 1000000 in
theorem mj_k110 : mj_ckm 110 = true := by decide +kernel
set_option maxRecDepth 1000000 in
theorem mj_k111 : mj_ckm 111 = true := by decide +kernel
set_option maxRecDepth 1000000 in
theorem mj_k112 : mj_ckm 112 = true := by decide +kernel
set_option maxRecDepth 1000000 in
theorem mj_k113 : mj_ckm 113 = true := by decide +kernel
set_option maxRecDepth 1000000 in
theorem mj_k114 : mj_ckm 114 = true := by decide +kernel
set_option maxRecDepth 1000000 in
theorem mj_k115 : mj_ckm 115 = true := by decide +kernel
set_option maxRecDepth 1000000 in
theorem mj_k116 : mj_ckm 116 = true := by decide +kernel
set_option maxRecDepth 1000000 in
theorem mj_k117 : mj_ckm 117 = true := by decide +kernel
set_option maxRecDepth 1000000 in
theorem mj_k118 : mj_ckm 118 = true := by decide +kernel
set_option maxRecDepth 1000000 in
theorem mj_k119 : mj_ckm 119 = true := by decide +kernel
set_option maxRecDepth 1000000 in
theorem mj_k120 : mj_ckm 120 = true := by decide +kernel
set_option maxRecDepth 1000000 in
theorem mj_k121 : mj_ckm 121 = true := by decide +kernel
set_option maxRecDepth 1000000 in
theorem mj_k122 : mj_ckm 122 = true := by decide +kernel
set_option maxRecDepth 1000000 in
theorem mj_k123 : mj_ckm 123 = true := by decide +kernel
set_option maxRecDepth 1000000 in
theorem mj_k124 : mj_ckm 124 = true := by decide +kernel
set_option maxRecDepth 1000000 in
theorem mj_k125 : mj_ckm 125 = true := by decide +kernel
set_option maxRecDepth 1000000 in
theorem mj_k126 : mj_ckm 126 = true := by decide +kernel
set_option maxRecDepth 1000000 in
theorem mj_k127 : mj_ckm 127 = true := by decide +kernel
set_option maxRecDepth 1000000 in
theorem mj_k128 : mj_ckm 128 = true := by decide +kernel
set_option maxRecDepth 1000000 in
theorem mj_k129 : mj_ckm 129 = true := by decide +kernel
set_option maxRecDepth 1000000 in
theorem mj_k130 : mj_ckm 130 = true := by decide +kernel
set_option maxRecDepth 1000000 in
theorem mj_k131 : mj_ckm 131 = true := by decide +kernel
set_option maxRecDepth 1000000 in
theorem mj_k132 : mj_ckm 132 = true := by decide +kernel
set_option maxRecDepth 1000000 in
theorem mj_k133 : mj_ckm 133 = true := by decide +kernel
set_option maxRecDepth 1000000 in
theorem mj_k134 : mj_ckm 134 = true := by decide +kernel
set_option maxRecDepth 1000000 in
theorem mj_k135 : mj_ckm 135 = true := by decide +kernel
set_option maxRecDepth 1000000 in
theorem mj_k136 : mj_ckm 136 = true := by decide +kernel
set_option maxRecDepth 1000000 in
theorem mj_k137 : mj_ckm 137 = true := by decide +kernel
set_option maxRecDepth 1000000 in
theorem mj_k138 : mj_ckm 138 = true := by decide +kernel
set_option maxRecDepth 1000000 in
theorem mj_k139 : mj_ckm 139 = true := by decide +kernel
set_option maxRecDepth 1000000 in
theorem mj_k140 : mj_ckm 140 = true := by decide +kernel
set_option maxRecDepth 1000000 in
theorem mj_k141 : mj_ckm 141 = true := by decide +kernel
set_option maxRecDepth 1000000 in
theorem mj_k142 : mj_ckm 142 = true := by decide +kernel
set_option maxRecDepth 1000000 in
theorem mj_k143 : mj_ckm 143 = true := by decide +kernel
set_option maxRecDepth 1000000 in
theorem mj_k144 : mj_ckm 144 = true := by decide +kernel
set_option maxRecDepth 1000000 in
theorem mj_k145 : mj_ckm 145 = true := by decide +kernel
set_option maxRecDepth 1000000 in
theorem mj_k146 : mj_ckm 146 = true := by decide +kernel
set_option maxRecDepth 1000000 in
theorem mj_k147 : mj_ckm 147 = true := by decide +kernel
set_option maxRecDepth 1000000 in
theorem mj_k148 : mj_ckm 148 = true := by decide +kernel
set_option maxRecDepth 1000000 in
theorem mj_k149 : mj_ckm 149 = true := by decide +kernel
set_option maxRecDepth 1000000 in
theorem mj_k150 : mj_ckm 150 = true := by decide +kernel
set_option maxRecDepth 1000000 in
theorem mj_k151 : mj_ckm 151 = true := by decide +kernel
set_option maxRecDepth 1000000 in
theorem mj_k152 : mj_ckm 152 = true := by decide +kernel
