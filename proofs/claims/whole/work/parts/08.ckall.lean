theorem mj_blt {a b : Nat} (h : b ≤ a) : Nat.blt a b = false := by
  rw [Bool.eq_false_iff]
  intro q
  have := Nat.blt_eq.mp q
  omega
theorem mj_ckr_app {y a n m : Nat} (h1 : mj_ckr y a n = true) (h2 : mj_ckr y (a + n) m = true) : mj_ckr y a (n + m) = true := by
  unfold mj_ckr at *
  rw [List.all_eq_true] at *
  intro j hj
  have hj' := List.mem_range.mp hj
  by_cases h : j < n
  · exact h1 j (List.mem_range.mpr h)
  · have h3 := h2 (j - n) (List.mem_range.mpr (by omega))
    rw [show a + n + (j - n) = a + j by omega] at h3
    exact h3
set_option maxRecDepth 100000 in
theorem mj_k0 : mj_ckm 0 = true := by
  have h : mj_ckr 0 0 1568 = true := mj_ckr_app (y := 0) (a := 0) (n := 1560) (m := 8) (mj_ckr_app (y := 0) (a := 0) (n := 1440) (m := 120) (mj_ckr_app (y := 0) (a := 0) (n := 1320) (m := 120) (mj_ckr_app (y := 0) (a := 0) (n := 1200) (m := 120) (mj_ckr_app (y := 0) (a := 0) (n := 1080) (m := 120) (mj_ckr_app (y := 0) (a := 0) (n := 960) (m := 120) (mj_ckr_app (y := 0) (a := 0) (n := 840) (m := 120) (mj_ckr_app (y := 0) (a := 0) (n := 720) (m := 120) (mj_ckr_app (y := 0) (a := 0) (n := 600) (m := 120) (mj_ckr_app (y := 0) (a := 0) (n := 480) (m := 120) (mj_ckr_app (y := 0) (a := 0) (n := 360) (m := 120) (mj_ckr_app (y := 0) (a := 0) (n := 240) (m := 120) (mj_ckr_app (y := 0) (a := 0) (n := 120) (m := 120) (mj_kL0) mj_kL1) mj_kL2) mj_kL3) mj_kL4) mj_kL5) mj_kL6) mj_kL7) mj_kL8) mj_kL9) mj_kL10) mj_kL11) mj_kL12) mj_kL13
  unfold mj_ckr at h
  unfold mj_ckm
  rw [List.all_eq_true] at *
  intro j hj
  have h1 := h j hj
  rw [Nat.zero_add] at h1
  exact h1
theorem mj_kall (y : Nat) (hy : y < 231) : mj_ckm y = true := by
  by_cases h115 : y < 115
  · by_cases h57 : y < 57
    · by_cases h28 : y < 28
      · by_cases h14 : y < 14
        · by_cases h7 : y < 7
          · by_cases h3 : y < 3
            · by_cases h1 : y < 1
              · obtain rfl : y = 0 := by omega
                exact mj_k0
              · by_cases h2 : y < 2
                · obtain rfl : y = 1 := by omega
                  exact mj_k1
                · obtain rfl : y = 2 := by omega
                  exact mj_k2
            · by_cases h5 : y < 5
              · by_cases h4 : y < 4
                · obtain rfl : y = 3 := by omega
                  exact mj_k3
                · obtain rfl : y = 4 := by omega
                  exact mj_k4
              · by_cases h6 : y < 6
                · obtain rfl : y = 5 := by omega
                  exact mj_k5
                · obtain rfl : y = 6 := by omega
                  exact mj_k6
          · by_cases h10 : y < 10
            · by_cases h8 : y < 8
              · obtain rfl : y = 7 := by omega
                exact mj_k7
              · by_cases h9 : y < 9
                · obtain rfl : y = 8 := by omega
                  exact mj_k8
                · obtain rfl : y = 9 := by omega
                  exact mj_k9
            · by_cases h12 : y < 12
              · by_cases h11 : y < 11
                · obtain rfl : y = 10 := by omega
                  exact mj_k10
                · obtain rfl : y = 11 := by omega
                  exact mj_k11
              · by_cases h13 : y < 13
                · obtain rfl : y = 12 := by omega
                  exact mj_k12
                · obtain rfl : y = 13 := by omega
                  exact mj_k13
        · by_cases h21 : y < 21
          · by_cases h17 : y < 17
            · by_cases h15 : y < 15
              · obtain rfl : y = 14 := by omega
                exact mj_k14
              · by_cases h16 : y < 16
                · obtain rfl : y = 15 := by omega
                  exact mj_k15
                · obtain rfl : y = 16 := by omega
                  exact mj_k16
            · by_cases h19 : y < 19
              · by_cases h18 : y < 18
                · obtain rfl : y = 17 := by omega
                  exact mj_k17
                · obtain rfl : y = 18 := by omega
                  exact mj_k18
              · by_cases h20 : y < 20
                · obtain rfl : y = 19 := by omega
                  exact mj_k19
                · obtain rfl : y = 20 := by omega
                  exact mj_k20
          · by_cases h24 : y < 24
            · by_cases h22 : y < 22
              · obtain rfl : y = 21 := by omega
                exact mj_k21
              · by_cases h23 : y < 23
                · obtain rfl : y = 22 := by omega
                  exact mj_k22
                · obtain rfl : y = 23 := by omega
                  exact mj_k23
            · by_cases h26 : y < 26
              · by_cases h25 : y < 25
                · obtain rfl : y = 24 := by omega
                  exact mj_k24
                · obtain rfl : y = 25 := by omega
                  exact mj_k25
              · by_cases h27 : y < 27
                · obtain rfl : y = 26 := by omega
                  exact mj_k26
                · obtain rfl : y = 27 := by omega
                  exact mj_k27
      · by_cases h42 : y < 42
        · by_cases h35 : y < 35
          · by_cases h31 : y < 31
            · by_cases h29 : y < 29
              · obtain rfl : y = 28 := by omega
                exact mj_k28
              · by_cases h30 : y < 30
                · obtain rfl : y = 29 := by omega
                  exact mj_k29
                · obtain rfl : y = 30 := by omega
                  exact mj_k30
            · by_cases h33 : y < 33
              · by_cases h32 : y < 32
                · obtain rfl : y = 31 := by omega
                  exact mj_k31
                · obtain rfl : y = 32 := by omega
                  exact mj_k32
              · by_cases h34 : y < 34
                · obtain rfl : y = 33 := by omega
                  exact mj_k33
                · obtain rfl : y = 34 := by omega
                  exact mj_k34
          · by_cases h38 : y < 38
            · by_cases h36 : y < 36
              · obtain rfl : y = 35 := by omega
                exact mj_k35
              · by_cases h37 : y < 37
                · obtain rfl : y = 36 := by omega
                  exact mj_k36
                · obtain rfl : y = 37 := by omega
                  exact mj_k37
            · by_cases h40 : y < 40
              · by_cases h39 : y < 39
                · obtain rfl : y = 38 := by omega
                  exact mj_k38
                · obtain rfl : y = 39 := by omega
                  exact mj_k39
              · by_cases h41 : y < 41
                · obtain rfl : y = 40 := by omega
                  exact mj_k40
                · obtain rfl : y = 41 := by omega
                  exact mj_k41
        · by_cases h49 : y < 49
          · by_cases h45 : y < 45
            · by_cases h43 : y < 43
              · obtain rfl : y = 42 := by omega
                exact mj_k42
              · by_cases h44 : y < 44
                · obtain rfl : y = 43 := by omega
                  exact mj_k43
                · obtain rfl : y = 44 := by omega
                  exact mj_k44
            · by_cases h47 : y < 47
              · by_cases h46 : y < 46
                · obtain rfl : y = 45 := by omega
                  exact mj_k45
                · obtain rfl : y = 46 := by omega
                  exact mj_k46
              · by_cases h48 : y < 48
                · obtain rfl : y = 47 := by omega
                  exact mj_k47
                · obtain rfl : y = 48 := by omega
                  exact mj_k48
          · by_cases h53 : y < 53
            · by_cases h51 : y < 51
              · by_cases h50 : y < 50
                · obtain rfl : y = 49 := by omega
                  exact mj_k49
                · obtain rfl : y = 50 := by omega
                  exact mj_k50
              · by_cases h52 : y < 52
                · obtain rfl : y = 51 := by omega
                  exact mj_k51
                · obtain rfl : y = 52 := by omega
                  exact mj_k52
            · by_cases h55 : y < 55
              · by_cases h54 : y < 54
                · obtain rfl : y = 53 := by omega
                  exact mj_k53
                · obtain rfl : y = 54 := by omega
                  exact mj_k54
              · by_cases h56 : y < 56
                · obtain rfl : y = 55 := by omega
                  exact mj_k55
                · obtain rfl : y = 56 := by omega
                  exact mj_k56
    · by_cases h86 : y < 86
      · by_cases h71 : y < 71
        · by_cases h64 : y < 64
          · by_cases h60 : y < 60
            · by_cases h58 : y < 58
              · obtain rfl : y = 57 := by omega
                exact mj_k57
              · by_cases h59 : y < 59
                · obtain rfl : y = 58 := by omega
                  exact mj_k58
                · obtain rfl : y = 59 := by omega
                  exact mj_k59
            · by_cases h62 : y < 62
              · by_cases h61 : y < 61
                · obtain rfl : y = 60 := by omega
                  exact mj_k60
                · obtain rfl : y = 61 := by omega
                  exact mj_k61
              · by_cases h63 : y < 63
                · obtain rfl : y = 62 := by omega
                  exact mj_k62
                · obtain rfl : y = 63 := by omega
                  exact mj_k63
          · by_cases h67 : y < 67
            · by_cases h65 : y < 65
              · obtain rfl : y = 64 := by omega
                exact mj_k64
              · by_cases h66 : y < 66
                · obtain rfl : y = 65 := by omega
                  exact mj_k65
                · obtain rfl : y = 66 := by omega
                  exact mj_k66
            · by_cases h69 : y < 69
              · by_cases h68 : y < 68
                · obtain rfl : y = 67 := by omega
                  exact mj_k67
                · obtain rfl : y = 68 := by omega
                  exact mj_k68
              · by_cases h70 : y < 70
                · obtain rfl : y = 69 := by omega
                  exact mj_k69
                · obtain rfl : y = 70 := by omega
                  exact mj_k70
        · by_cases h78 : y < 78
          · by_cases h74 : y < 74
            · by_cases h72 : y < 72
              · obtain rfl : y = 71 := by omega
                exact mj_k71
              · by_cases h73 : y < 73
                · obtain rfl : y = 72 := by omega
                  exact mj_k72
                · obtain rfl : y = 73 := by omega
                  exact mj_k73
            · by_cases h76 : y < 76
              · by_cases h75 : y < 75
                · obtain rfl : y = 74 := by omega
                  exact mj_k74
                · obtain rfl : y = 75 := by omega
                  exact mj_k75
              · by_cases h77 : y < 77
                · obtain rfl : y = 76 := by omega
                  exact mj_k76
                · obtain rfl : y = 77 := by omega
                  exact mj_k77
          · by_cases h82 : y < 82
            · by_cases h80 : y < 80
              · by_cases h79 : y < 79
                · obtain rfl : y = 78 := by omega
                  exact mj_k78
                · obtain rfl : y = 79 := by omega
                  exact mj_k79
              · by_cases h81 : y < 81
                · obtain rfl : y = 80 := by omega
                  exact mj_k80
                · obtain rfl : y = 81 := by omega
                  exact mj_k81
            · by_cases h84 : y < 84
              · by_cases h83 : y < 83
                · obtain rfl : y = 82 := by omega
                  exact mj_k82
                · obtain rfl : y = 83 := by omega
                  exact mj_k83
              · by_cases h85 : y < 85
                · obtain rfl : y = 84 := by omega
                  exact mj_k84
                · obtain rfl : y = 85 := by omega
                  exact mj_k85
      · by_cases h100 : y < 100
        · by_cases h93 : y < 93
          · by_cases h89 : y < 89
            · by_cases h87 : y < 87
              · obtain rfl : y = 86 := by omega
                exact mj_k86
              · by_cases h88 : y < 88
                · obtain rfl : y = 87 := by omega
                  exact mj_k87
                · obtain rfl : y = 88 := by omega
                  exact mj_k88
            · by_cases h91 : y < 91
              · by_cases h90 : y < 90
                · obtain rfl : y = 89 := by omega
                  exact mj_k89
                · obtain rfl : y = 90 := by omega
                  exact mj_k90
              · by_cases h92 : y < 92
                · obtain rfl : y = 91 := by omega
                  exact mj_k91
                · obtain rfl : y = 92 := by omega
                  exact mj_k92
          · by_cases h96 : y < 96
            · by_cases h94 : y < 94
              · obtain rfl : y = 93 := by omega
                exact mj_k93
              · by_cases h95 : y < 95
                · obtain rfl : y = 94 := by omega
                  exact mj_k94
                · obtain rfl : y = 95 := by omega
                  exact mj_k95
            · by_cases h98 : y < 98
              · by_cases h97 : y < 97
                · obtain rfl : y = 96 := by omega
                  exact mj_k96
                · obtain rfl : y = 97 := by omega
                  exact mj_k97
              · by_cases h99 : y < 99
                · obtain rfl : y = 98 := by omega
                  exact mj_k98
                · obtain rfl : y = 99 := by omega
                  exact mj_k99
        · by_cases h107 : y < 107
          · by_cases h103 : y < 103
            · by_cases h101 : y < 101
              · obtain rfl : y = 100 := by omega
                exact mj_k100
              · by_cases h102 : y < 102
                · obtain rfl : y = 101 := by omega
                  exact mj_k101
                · obtain rfl : y = 102 := by omega
                  exact mj_k102
            · by_cases h105 : y < 105
              · by_cases h104 : y < 104
                · obtain rfl : y = 103 := by omega
                  exact mj_k103
                · obtain rfl : y = 104 := by omega
                  exact mj_k104
              · by_cases h106 : y < 106
                · obtain rfl : y = 105 := by omega
                  exact mj_k105
                · obtain rfl : y = 106 := by omega
                  exact mj_k106
          · by_cases h111 : y < 111
            · by_cases h109 : y < 109
              · by_cases h108 : y < 108
                · obtain rfl : y = 107 := by omega
                  exact mj_k107
                · obtain rfl : y = 108 := by omega
                  exact mj_k108
              · by_cases h110 : y < 110
                · obtain rfl : y = 109 := by omega
                  exact mj_k109
                · obtain rfl : y = 110 := by omega
                  exact mj_k110
            · by_cases h113 : y < 113
              · by_cases h112 : y < 112
                · obtain rfl : y = 111 := by omega
                  exact mj_k111
                · obtain rfl : y = 112 := by omega
                  exact mj_k112
              · by_cases h114 : y < 114
                · obtain rfl : y = 113 := by omega
                  exact mj_k113
                · obtain rfl : y = 114 := by omega
                  exact mj_k114
  · by_cases h173 : y < 173
    · by_cases h144 : y < 144
      · by_cases h129 : y < 129
        · by_cases h122 : y < 122
          · by_cases h118 : y < 118
            · by_cases h116 : y < 116
              · obtain rfl : y = 115 := by omega
                exact mj_k115
              · by_cases h117 : y < 117
                · obtain rfl : y = 116 := by omega
                  exact mj_k116
                · obtain rfl : y = 117 := by omega
                  exact mj_k117
            · by_cases h120 : y < 120
              · by_cases h119 : y < 119
                · obtain rfl : y = 118 := by omega
                  exact mj_k118
                · obtain rfl : y = 119 := by omega
                  exact mj_k119
              · by_cases h121 : y < 121
                · obtain rfl : y = 120 := by omega
                  exact mj_k120
                · obtain rfl : y = 121 := by omega
                  exact mj_k121
          · by_cases h125 : y < 125
            · by_cases h123 : y < 123
              · obtain rfl : y = 122 := by omega
                exact mj_k122
              · by_cases h124 : y < 124
                · obtain rfl : y = 123 := by omega
                  exact mj_k123
                · obtain rfl : y = 124 := by omega
                  exact mj_k124
            · by_cases h127 : y < 127
              · by_cases h126 : y < 126
                · obtain rfl : y = 125 := by omega
                  exact mj_k125
                · obtain rfl : y = 126 := by omega
                  exact mj_k126
              · by_cases h128 : y < 128
                · obtain rfl : y = 127 := by omega
                  exact mj_k127
                · obtain rfl : y = 128 := by omega
                  exact mj_k128
        · by_cases h136 : y < 136
          · by_cases h132 : y < 132
            · by_cases h130 : y < 130
              · obtain rfl : y = 129 := by omega
                exact mj_k129
              · by_cases h131 : y < 131
                · obtain rfl : y = 130 := by omega
                  exact mj_k130
                · obtain rfl : y = 131 := by omega
                  exact mj_k131
            · by_cases h134 : y < 134
              · by_cases h133 : y < 133
                · obtain rfl : y = 132 := by omega
                  exact mj_k132
                · obtain rfl : y = 133 := by omega
                  exact mj_k133
              · by_cases h135 : y < 135
                · obtain rfl : y = 134 := by omega
                  exact mj_k134
                · obtain rfl : y = 135 := by omega
                  exact mj_k135
          · by_cases h140 : y < 140
            · by_cases h138 : y < 138
              · by_cases h137 : y < 137
                · obtain rfl : y = 136 := by omega
                  exact mj_k136
                · obtain rfl : y = 137 := by omega
                  exact mj_k137
              · by_cases h139 : y < 139
                · obtain rfl : y = 138 := by omega
                  exact mj_k138
                · obtain rfl : y = 139 := by omega
                  exact mj_k139
            · by_cases h142 : y < 142
              · by_cases h141 : y < 141
                · obtain rfl : y = 140 := by omega
                  exact mj_k140
                · obtain rfl : y = 141 := by omega
                  exact mj_k141
              · by_cases h143 : y < 143
                · obtain rfl : y = 142 := by omega
                  exact mj_k142
                · obtain rfl : y = 143 := by omega
                  exact mj_k143
      · by_cases h158 : y < 158
        · by_cases h151 : y < 151
          · by_cases h147 : y < 147
            · by_cases h145 : y < 145
              · obtain rfl : y = 144 := by omega
                exact mj_k144
              · by_cases h146 : y < 146
                · obtain rfl : y = 145 := by omega
                  exact mj_k145
                · obtain rfl : y = 146 := by omega
                  exact mj_k146
            · by_cases h149 : y < 149
              · by_cases h148 : y < 148
                · obtain rfl : y = 147 := by omega
                  exact mj_k147
                · obtain rfl : y = 148 := by omega
                  exact mj_k148
              · by_cases h150 : y < 150
                · obtain rfl : y = 149 := by omega
                  exact mj_k149
                · obtain rfl : y = 150 := by omega
                  exact mj_k150
          · by_cases h154 : y < 154
            · by_cases h152 : y < 152
              · obtain rfl : y = 151 := by omega
                exact mj_k151
              · by_cases h153 : y < 153
                · obtain rfl : y = 152 := by omega
                  exact mj_k152
                · obtain rfl : y = 153 := by omega
                  exact mj_k153
            · by_cases h156 : y < 156
              · by_cases h155 : y < 155
                · obtain rfl : y = 154 := by omega
                  exact mj_k154
                · obtain rfl : y = 155 := by omega
                  exact mj_k155
              · by_cases h157 : y < 157
                · obtain rfl : y = 156 := by omega
                  exact mj_k156
                · obtain rfl : y = 157 := by omega
                  exact mj_k157
        · by_cases h165 : y < 165
          · by_cases h161 : y < 161
            · by_cases h159 : y < 159
              · obtain rfl : y = 158 := by omega
                exact mj_k158
              · by_cases h160 : y < 160
                · obtain rfl : y = 159 := by omega
                  exact mj_k159
                · obtain rfl : y = 160 := by omega
                  exact mj_k160
            · by_cases h163 : y < 163
              · by_cases h162 : y < 162
                · obtain rfl : y = 161 := by omega
                  exact mj_k161
                · obtain rfl : y = 162 := by omega
                  exact mj_k162
              · by_cases h164 : y < 164
                · obtain rfl : y = 163 := by omega
                  exact mj_k163
                · obtain rfl : y = 164 := by omega
                  exact mj_k164
          · by_cases h169 : y < 169
            · by_cases h167 : y < 167
              · by_cases h166 : y < 166
                · obtain rfl : y = 165 := by omega
                  exact mj_k165
                · obtain rfl : y = 166 := by omega
                  exact mj_k166
              · by_cases h168 : y < 168
                · obtain rfl : y = 167 := by omega
                  exact mj_k167
                · obtain rfl : y = 168 := by omega
                  exact mj_k168
            · by_cases h171 : y < 171
              · by_cases h170 : y < 170
                · obtain rfl : y = 169 := by omega
                  exact mj_k169
                · obtain rfl : y = 170 := by omega
                  exact mj_k170
              · by_cases h172 : y < 172
                · obtain rfl : y = 171 := by omega
                  exact mj_k171
                · obtain rfl : y = 172 := by omega
                  exact mj_k172
    · by_cases h202 : y < 202
      · by_cases h187 : y < 187
        · by_cases h180 : y < 180
          · by_cases h176 : y < 176
            · by_cases h174 : y < 174
              · obtain rfl : y = 173 := by omega
                exact mj_k173
              · by_cases h175 : y < 175
                · obtain rfl : y = 174 := by omega
                  exact mj_k174
                · obtain rfl : y = 175 := by omega
                  exact mj_k175
            · by_cases h178 : y < 178
              · by_cases h177 : y < 177
                · obtain rfl : y = 176 := by omega
                  exact mj_k176
                · obtain rfl : y = 177 := by omega
                  exact mj_k177
              · by_cases h179 : y < 179
                · obtain rfl : y = 178 := by omega
                  exact mj_k178
                · obtain rfl : y = 179 := by omega
                  exact mj_k179
          · by_cases h183 : y < 183
            · by_cases h181 : y < 181
              · obtain rfl : y = 180 := by omega
                exact mj_k180
              · by_cases h182 : y < 182
                · obtain rfl : y = 181 := by omega
                  exact mj_k181
                · obtain rfl : y = 182 := by omega
                  exact mj_k182
            · by_cases h185 : y < 185
              · by_cases h184 : y < 184
                · obtain rfl : y = 183 := by omega
                  exact mj_k183
                · obtain rfl : y = 184 := by omega
                  exact mj_k184
              · by_cases h186 : y < 186
                · obtain rfl : y = 185 := by omega
                  exact mj_k185
                · obtain rfl : y = 186 := by omega
                  exact mj_k186
        · by_cases h194 : y < 194
          · by_cases h190 : y < 190
            · by_cases h188 : y < 188
              · obtain rfl : y = 187 := by omega
                exact mj_k187
              · by_cases h189 : y < 189
                · obtain rfl : y = 188 := by omega
                  exact mj_k188
                · obtain rfl : y = 189 := by omega
                  exact mj_k189
            · by_cases h192 : y < 192
              · by_cases h191 : y < 191
                · obtain rfl : y = 190 := by omega
                  exact mj_k190
                · obtain rfl : y = 191 := by omega
                  exact mj_k191
              · by_cases h193 : y < 193
                · obtain rfl : y = 192 := by omega
                  exact mj_k192
                · obtain rfl : y = 193 := by omega
                  exact mj_k193
          · by_cases h198 : y < 198
            · by_cases h196 : y < 196
              · by_cases h195 : y < 195
                · obtain rfl : y = 194 := by omega
                  exact mj_k194
                · obtain rfl : y = 195 := by omega
                  exact mj_k195
              · by_cases h197 : y < 197
                · obtain rfl : y = 196 := by omega
                  exact mj_k196
                · obtain rfl : y = 197 := by omega
                  exact mj_k197
            · by_cases h200 : y < 200
              · by_cases h199 : y < 199
                · obtain rfl : y = 198 := by omega
                  exact mj_k198
                · obtain rfl : y = 199 := by omega
                  exact mj_k199
              · by_cases h201 : y < 201
                · obtain rfl : y = 200 := by omega
                  exact mj_k200
                · obtain rfl : y = 201 := by omega
                  exact mj_k201
      · by_cases h216 : y < 216
        · by_cases h209 : y < 209
          · by_cases h205 : y < 205
            · by_cases h203 : y < 203
              · obtain rfl : y = 202 := by omega
                exact mj_k202
              · by_cases h204 : y < 204
                · obtain rfl : y = 203 := by omega
                  exact mj_k203
                · obtain rfl : y = 204 := by omega
                  exact mj_k204
            · by_cases h207 : y < 207
              · by_cases h206 : y < 206
                · obtain rfl : y = 205 := by omega
                  exact mj_k205
                · obtain rfl : y = 206 := by omega
                  exact mj_k206
              · by_cases h208 : y < 208
                · obtain rfl : y = 207 := by omega
                  exact mj_k207
                · obtain rfl : y = 208 := by omega
                  exact mj_k208
          · by_cases h212 : y < 212
            · by_cases h210 : y < 210
              · obtain rfl : y = 209 := by omega
                exact mj_k209
              · by_cases h211 : y < 211
                · obtain rfl : y = 210 := by omega
                  exact mj_k210
                · obtain rfl : y = 211 := by omega
                  exact mj_k211
            · by_cases h214 : y < 214
              · by_cases h213 : y < 213
                · obtain rfl : y = 212 := by omega
                  exact mj_k212
                · obtain rfl : y = 213 := by omega
                  exact mj_k213
              · by_cases h215 : y < 215
                · obtain rfl : y = 214 := by omega
                  exact mj_k214
                · obtain rfl : y = 215 := by omega
                  exact mj_k215
        · by_cases h223 : y < 223
          · by_cases h219 : y < 219
            · by_cases h217 : y < 217
              · obtain rfl : y = 216 := by omega
                exact mj_k216
              · by_cases h218 : y < 218
                · obtain rfl : y = 217 := by omega
                  exact mj_k217
                · obtain rfl : y = 218 := by omega
                  exact mj_k218
            · by_cases h221 : y < 221
              · by_cases h220 : y < 220
                · obtain rfl : y = 219 := by omega
                  exact mj_k219
                · obtain rfl : y = 220 := by omega
                  exact mj_k220
              · by_cases h222 : y < 222
                · obtain rfl : y = 221 := by omega
                  exact mj_k221
                · obtain rfl : y = 222 := by omega
                  exact mj_k222
          · by_cases h227 : y < 227
            · by_cases h225 : y < 225
              · by_cases h224 : y < 224
                · obtain rfl : y = 223 := by omega
                  exact mj_k223
                · obtain rfl : y = 224 := by omega
                  exact mj_k224
              · by_cases h226 : y < 226
                · obtain rfl : y = 225 := by omega
                  exact mj_k225
                · obtain rfl : y = 226 := by omega
                  exact mj_k226
            · by_cases h229 : y < 229
              · by_cases h228 : y < 228
                · obtain rfl : y = 227 := by omega
                  exact mj_k227
                · obtain rfl : y = 228 := by omega
                  exact mj_k228
              · by_cases h230 : y < 230
                · obtain rfl : y = 229 := by omega
                  exact mj_k229
                · obtain rfl : y = 230 := by omega
                  exact mj_k230

theorem mj_inslt {y pc : Nat} {q : MI} (h : mj_ins y pc = some q) : pc < mj_Z y ∧ y < 231 := by
  have hz : pc < mj_Z y := by
    by_cases hb : pc < mj_Z y
    · exact hb
    · unfold mj_ins at h
      rw [show Nat.blt pc (mj_Z y) = false from mj_blt (by omega)] at h
      cases h
  refine ⟨hz, ?_⟩
  by_cases hb : y < 231
  · exact hb
  · unfold mj_Z at hz
    rw [show Nat.blt y 231 = false from mj_blt (by omega)] at hz
    exact absurd hz (Nat.not_lt_zero _)
theorem mj_dec {y pc : Nat} {q : MI} (h : mj_ins y pc = some q) : decode (mj_B y) pc = .ok (q.1, mj_len q.1 (q.2.1 - pc)) ∧ q.2.1 = pc + mj_len q.1 (q.2.1 - pc) := by
  obtain ⟨hz, hy⟩ := mj_inslt h
  have h1 := mj_kall y hy
  unfold mj_ckm at h1
  have h2 := List.all_eq_true.mp h1 pc (List.mem_range.mpr hz)
  rw [h] at h2
  simp only [mj_ckd, Bool.and_eq_true, decide_eq_true_eq] at h2
  exact h2
