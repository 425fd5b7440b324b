theorem mj_call (y : Nat) (h0 : 0 < y) (hy : y < 231) : Cond.code (mj_N y) (mj_B y) (mj_L y) (mj_R y) ∈ lw_tbl := by
  by_cases h116 : y < 116
  · by_cases h58 : y < 58
    · by_cases h29 : y < 29
      · by_cases h15 : y < 15
        · by_cases h8 : y < 8
          · by_cases h4 : y < 4
            · by_cases h2 : y < 2
              · obtain rfl : y = 1 := by omega
                exact mj_cy1
              · by_cases h3 : y < 3
                · obtain rfl : y = 2 := by omega
                  exact mj_cy2
                · obtain rfl : y = 3 := by omega
                  exact mj_cy3
            · by_cases h6 : y < 6
              · by_cases h5 : y < 5
                · obtain rfl : y = 4 := by omega
                  exact mj_cy4
                · obtain rfl : y = 5 := by omega
                  exact mj_cy5
              · by_cases h7 : y < 7
                · obtain rfl : y = 6 := by omega
                  exact mj_cy6
                · obtain rfl : y = 7 := by omega
                  exact mj_cy7
          · by_cases h11 : y < 11
            · by_cases h9 : y < 9
              · obtain rfl : y = 8 := by omega
                exact mj_cy8
              · by_cases h10 : y < 10
                · obtain rfl : y = 9 := by omega
                  exact mj_cy9
                · obtain rfl : y = 10 := by omega
                  exact mj_cy10
            · by_cases h13 : y < 13
              · by_cases h12 : y < 12
                · obtain rfl : y = 11 := by omega
                  exact mj_cy11
                · obtain rfl : y = 12 := by omega
                  exact mj_cy12
              · by_cases h14 : y < 14
                · obtain rfl : y = 13 := by omega
                  exact mj_cy13
                · obtain rfl : y = 14 := by omega
                  exact mj_cy14
        · by_cases h22 : y < 22
          · by_cases h18 : y < 18
            · by_cases h16 : y < 16
              · obtain rfl : y = 15 := by omega
                exact mj_cy15
              · by_cases h17 : y < 17
                · obtain rfl : y = 16 := by omega
                  exact mj_cy16
                · obtain rfl : y = 17 := by omega
                  exact mj_cy17
            · by_cases h20 : y < 20
              · by_cases h19 : y < 19
                · obtain rfl : y = 18 := by omega
                  exact mj_cy18
                · obtain rfl : y = 19 := by omega
                  exact mj_cy19
              · by_cases h21 : y < 21
                · obtain rfl : y = 20 := by omega
                  exact mj_cy20
                · obtain rfl : y = 21 := by omega
                  exact mj_cy21
          · by_cases h25 : y < 25
            · by_cases h23 : y < 23
              · obtain rfl : y = 22 := by omega
                exact mj_cy22
              · by_cases h24 : y < 24
                · obtain rfl : y = 23 := by omega
                  exact mj_cy23
                · obtain rfl : y = 24 := by omega
                  exact mj_cy24
            · by_cases h27 : y < 27
              · by_cases h26 : y < 26
                · obtain rfl : y = 25 := by omega
                  exact mj_cy25
                · obtain rfl : y = 26 := by omega
                  exact mj_cy26
              · by_cases h28 : y < 28
                · obtain rfl : y = 27 := by omega
                  exact mj_cy27
                · obtain rfl : y = 28 := by omega
                  exact mj_cy28
      · by_cases h43 : y < 43
        · by_cases h36 : y < 36
          · by_cases h32 : y < 32
            · by_cases h30 : y < 30
              · obtain rfl : y = 29 := by omega
                exact mj_cy29
              · by_cases h31 : y < 31
                · obtain rfl : y = 30 := by omega
                  exact mj_cy30
                · obtain rfl : y = 31 := by omega
                  exact mj_cy31
            · by_cases h34 : y < 34
              · by_cases h33 : y < 33
                · obtain rfl : y = 32 := by omega
                  exact mj_cy32
                · obtain rfl : y = 33 := by omega
                  exact mj_cy33
              · by_cases h35 : y < 35
                · obtain rfl : y = 34 := by omega
                  exact mj_cy34
                · obtain rfl : y = 35 := by omega
                  exact mj_cy35
          · by_cases h39 : y < 39
            · by_cases h37 : y < 37
              · obtain rfl : y = 36 := by omega
                exact mj_cy36
              · by_cases h38 : y < 38
                · obtain rfl : y = 37 := by omega
                  exact mj_cy37
                · obtain rfl : y = 38 := by omega
                  exact mj_cy38
            · by_cases h41 : y < 41
              · by_cases h40 : y < 40
                · obtain rfl : y = 39 := by omega
                  exact mj_cy39
                · obtain rfl : y = 40 := by omega
                  exact mj_cy40
              · by_cases h42 : y < 42
                · obtain rfl : y = 41 := by omega
                  exact mj_cy41
                · obtain rfl : y = 42 := by omega
                  exact mj_cy42
        · by_cases h50 : y < 50
          · by_cases h46 : y < 46
            · by_cases h44 : y < 44
              · obtain rfl : y = 43 := by omega
                exact mj_cy43
              · by_cases h45 : y < 45
                · obtain rfl : y = 44 := by omega
                  exact mj_cy44
                · obtain rfl : y = 45 := by omega
                  exact mj_cy45
            · by_cases h48 : y < 48
              · by_cases h47 : y < 47
                · obtain rfl : y = 46 := by omega
                  exact mj_cy46
                · obtain rfl : y = 47 := by omega
                  exact mj_cy47
              · by_cases h49 : y < 49
                · obtain rfl : y = 48 := by omega
                  exact mj_cy48
                · obtain rfl : y = 49 := by omega
                  exact mj_cy49
          · by_cases h54 : y < 54
            · by_cases h52 : y < 52
              · by_cases h51 : y < 51
                · obtain rfl : y = 50 := by omega
                  exact mj_cy50
                · obtain rfl : y = 51 := by omega
                  exact mj_cy51
              · by_cases h53 : y < 53
                · obtain rfl : y = 52 := by omega
                  exact mj_cy52
                · obtain rfl : y = 53 := by omega
                  exact mj_cy53
            · by_cases h56 : y < 56
              · by_cases h55 : y < 55
                · obtain rfl : y = 54 := by omega
                  exact mj_cy54
                · obtain rfl : y = 55 := by omega
                  exact mj_cy55
              · by_cases h57 : y < 57
                · obtain rfl : y = 56 := by omega
                  exact mj_cy56
                · obtain rfl : y = 57 := by omega
                  exact mj_cy57
    · by_cases h87 : y < 87
      · by_cases h72 : y < 72
        · by_cases h65 : y < 65
          · by_cases h61 : y < 61
            · by_cases h59 : y < 59
              · obtain rfl : y = 58 := by omega
                exact mj_cy58
              · by_cases h60 : y < 60
                · obtain rfl : y = 59 := by omega
                  exact mj_cy59
                · obtain rfl : y = 60 := by omega
                  exact mj_cy60
            · by_cases h63 : y < 63
              · by_cases h62 : y < 62
                · obtain rfl : y = 61 := by omega
                  exact mj_cy61
                · obtain rfl : y = 62 := by omega
                  exact mj_cy62
              · by_cases h64 : y < 64
                · obtain rfl : y = 63 := by omega
                  exact mj_cy63
                · obtain rfl : y = 64 := by omega
                  exact mj_cy64
          · by_cases h68 : y < 68
            · by_cases h66 : y < 66
              · obtain rfl : y = 65 := by omega
                exact mj_cy65
              · by_cases h67 : y < 67
                · obtain rfl : y = 66 := by omega
                  exact mj_cy66
                · obtain rfl : y = 67 := by omega
                  exact mj_cy67
            · by_cases h70 : y < 70
              · by_cases h69 : y < 69
                · obtain rfl : y = 68 := by omega
                  exact mj_cy68
                · obtain rfl : y = 69 := by omega
                  exact mj_cy69
              · by_cases h71 : y < 71
                · obtain rfl : y = 70 := by omega
                  exact mj_cy70
                · obtain rfl : y = 71 := by omega
                  exact mj_cy71
        · by_cases h79 : y < 79
          · by_cases h75 : y < 75
            · by_cases h73 : y < 73
              · obtain rfl : y = 72 := by omega
                exact mj_cy72
              · by_cases h74 : y < 74
                · obtain rfl : y = 73 := by omega
                  exact mj_cy73
                · obtain rfl : y = 74 := by omega
                  exact mj_cy74
            · by_cases h77 : y < 77
              · by_cases h76 : y < 76
                · obtain rfl : y = 75 := by omega
                  exact mj_cy75
                · obtain rfl : y = 76 := by omega
                  exact mj_cy76
              · by_cases h78 : y < 78
                · obtain rfl : y = 77 := by omega
                  exact mj_cy77
                · obtain rfl : y = 78 := by omega
                  exact mj_cy78
          · by_cases h83 : y < 83
            · by_cases h81 : y < 81
              · by_cases h80 : y < 80
                · obtain rfl : y = 79 := by omega
                  exact mj_cy79
                · obtain rfl : y = 80 := by omega
                  exact mj_cy80
              · by_cases h82 : y < 82
                · obtain rfl : y = 81 := by omega
                  exact mj_cy81
                · obtain rfl : y = 82 := by omega
                  exact mj_cy82
            · by_cases h85 : y < 85
              · by_cases h84 : y < 84
                · obtain rfl : y = 83 := by omega
                  exact mj_cy83
                · obtain rfl : y = 84 := by omega
                  exact mj_cy84
              · by_cases h86 : y < 86
                · obtain rfl : y = 85 := by omega
                  exact mj_cy85
                · obtain rfl : y = 86 := by omega
                  exact mj_cy86
      · by_cases h101 : y < 101
        · by_cases h94 : y < 94
          · by_cases h90 : y < 90
            · by_cases h88 : y < 88
              · obtain rfl : y = 87 := by omega
                exact mj_cy87
              · by_cases h89 : y < 89
                · obtain rfl : y = 88 := by omega
                  exact mj_cy88
                · obtain rfl : y = 89 := by omega
                  exact mj_cy89
            · by_cases h92 : y < 92
              · by_cases h91 : y < 91
                · obtain rfl : y = 90 := by omega
                  exact mj_cy90
                · obtain rfl : y = 91 := by omega
                  exact mj_cy91
              · by_cases h93 : y < 93
                · obtain rfl : y = 92 := by omega
                  exact mj_cy92
                · obtain rfl : y = 93 := by omega
                  exact mj_cy93
          · by_cases h97 : y < 97
            · by_cases h95 : y < 95
              · obtain rfl : y = 94 := by omega
                exact mj_cy94
              · by_cases h96 : y < 96
                · obtain rfl : y = 95 := by omega
                  exact mj_cy95
                · obtain rfl : y = 96 := by omega
                  exact mj_cy96
            · by_cases h99 : y < 99
              · by_cases h98 : y < 98
                · obtain rfl : y = 97 := by omega
                  exact mj_cy97
                · obtain rfl : y = 98 := by omega
                  exact mj_cy98
              · by_cases h100 : y < 100
                · obtain rfl : y = 99 := by omega
                  exact mj_cy99
                · obtain rfl : y = 100 := by omega
                  exact mj_cy100
        · by_cases h108 : y < 108
          · by_cases h104 : y < 104
            · by_cases h102 : y < 102
              · obtain rfl : y = 101 := by omega
                exact mj_cy101
              · by_cases h103 : y < 103
                · obtain rfl : y = 102 := by omega
                  exact mj_cy102
                · obtain rfl : y = 103 := by omega
                  exact mj_cy103
            · by_cases h106 : y < 106
              · by_cases h105 : y < 105
                · obtain rfl : y = 104 := by omega
                  exact mj_cy104
                · obtain rfl : y = 105 := by omega
                  exact mj_cy105
              · by_cases h107 : y < 107
                · obtain rfl : y = 106 := by omega
                  exact mj_cy106
                · obtain rfl : y = 107 := by omega
                  exact mj_cy107
          · by_cases h112 : y < 112
            · by_cases h110 : y < 110
              · by_cases h109 : y < 109
                · obtain rfl : y = 108 := by omega
                  exact mj_cy108
                · obtain rfl : y = 109 := by omega
                  exact mj_cy109
              · by_cases h111 : y < 111
                · obtain rfl : y = 110 := by omega
                  exact mj_cy110
                · obtain rfl : y = 111 := by omega
                  exact mj_cy111
            · by_cases h114 : y < 114
              · by_cases h113 : y < 113
                · obtain rfl : y = 112 := by omega
                  exact mj_cy112
                · obtain rfl : y = 113 := by omega
                  exact mj_cy113
              · by_cases h115 : y < 115
                · obtain rfl : y = 114 := by omega
                  exact mj_cy114
                · obtain rfl : y = 115 := by omega
                  exact mj_cy115
  · by_cases h173 : y < 173
    · by_cases h144 : y < 144
      · by_cases h130 : y < 130
        · by_cases h123 : y < 123
          · by_cases h119 : y < 119
            · by_cases h117 : y < 117
              · obtain rfl : y = 116 := by omega
                exact mj_cy116
              · by_cases h118 : y < 118
                · obtain rfl : y = 117 := by omega
                  exact mj_cy117
                · obtain rfl : y = 118 := by omega
                  exact mj_cy118
            · by_cases h121 : y < 121
              · by_cases h120 : y < 120
                · obtain rfl : y = 119 := by omega
                  exact mj_cy119
                · obtain rfl : y = 120 := by omega
                  exact mj_cy120
              · by_cases h122 : y < 122
                · obtain rfl : y = 121 := by omega
                  exact mj_cy121
                · obtain rfl : y = 122 := by omega
                  exact mj_cy122
          · by_cases h126 : y < 126
            · by_cases h124 : y < 124
              · obtain rfl : y = 123 := by omega
                exact mj_cy123
              · by_cases h125 : y < 125
                · obtain rfl : y = 124 := by omega
                  exact mj_cy124
                · obtain rfl : y = 125 := by omega
                  exact mj_cy125
            · by_cases h128 : y < 128
              · by_cases h127 : y < 127
                · obtain rfl : y = 126 := by omega
                  exact mj_cy126
                · obtain rfl : y = 127 := by omega
                  exact mj_cy127
              · by_cases h129 : y < 129
                · obtain rfl : y = 128 := by omega
                  exact mj_cy128
                · obtain rfl : y = 129 := by omega
                  exact mj_cy129
        · by_cases h137 : y < 137
          · by_cases h133 : y < 133
            · by_cases h131 : y < 131
              · obtain rfl : y = 130 := by omega
                exact mj_cy130
              · by_cases h132 : y < 132
                · obtain rfl : y = 131 := by omega
                  exact mj_cy131
                · obtain rfl : y = 132 := by omega
                  exact mj_cy132
            · by_cases h135 : y < 135
              · by_cases h134 : y < 134
                · obtain rfl : y = 133 := by omega
                  exact mj_cy133
                · obtain rfl : y = 134 := by omega
                  exact mj_cy134
              · by_cases h136 : y < 136
                · obtain rfl : y = 135 := by omega
                  exact mj_cy135
                · obtain rfl : y = 136 := by omega
                  exact mj_cy136
          · by_cases h140 : y < 140
            · by_cases h138 : y < 138
              · obtain rfl : y = 137 := by omega
                exact mj_cy137
              · by_cases h139 : y < 139
                · obtain rfl : y = 138 := by omega
                  exact mj_cy138
                · obtain rfl : y = 139 := by omega
                  exact mj_cy139
            · by_cases h142 : y < 142
              · by_cases h141 : y < 141
                · obtain rfl : y = 140 := by omega
                  exact mj_cy140
                · obtain rfl : y = 141 := by omega
                  exact mj_cy141
              · by_cases h143 : y < 143
                · obtain rfl : y = 142 := by omega
                  exact mj_cy142
                · obtain rfl : y = 143 := by omega
                  exact mj_cy143
      · by_cases h158 : y < 158
        · by_cases h151 : y < 151
          · by_cases h147 : y < 147
            · by_cases h145 : y < 145
              · obtain rfl : y = 144 := by omega
                exact mj_cy144
              · by_cases h146 : y < 146
                · obtain rfl : y = 145 := by omega
                  exact mj_cy145
                · obtain rfl : y = 146 := by omega
                  exact mj_cy146
            · by_cases h149 : y < 149
              · by_cases h148 : y < 148
                · obtain rfl : y = 147 := by omega
                  exact mj_cy147
                · obtain rfl : y = 148 := by omega
                  exact mj_cy148
              · by_cases h150 : y < 150
                · obtain rfl : y = 149 := by omega
                  exact mj_cy149
                · obtain rfl : y = 150 := by omega
                  exact mj_cy150
          · by_cases h154 : y < 154
            · by_cases h152 : y < 152
              · obtain rfl : y = 151 := by omega
                exact mj_cy151
              · by_cases h153 : y < 153
                · obtain rfl : y = 152 := by omega
                  exact mj_cy152
                · obtain rfl : y = 153 := by omega
                  exact mj_cy153
            · by_cases h156 : y < 156
              · by_cases h155 : y < 155
                · obtain rfl : y = 154 := by omega
                  exact mj_cy154
                · obtain rfl : y = 155 := by omega
                  exact mj_cy155
              · by_cases h157 : y < 157
                · obtain rfl : y = 156 := by omega
                  exact mj_cy156
                · obtain rfl : y = 157 := by omega
                  exact mj_cy157
        · by_cases h165 : y < 165
          · by_cases h161 : y < 161
            · by_cases h159 : y < 159
              · obtain rfl : y = 158 := by omega
                exact mj_cy158
              · by_cases h160 : y < 160
                · obtain rfl : y = 159 := by omega
                  exact mj_cy159
                · obtain rfl : y = 160 := by omega
                  exact mj_cy160
            · by_cases h163 : y < 163
              · by_cases h162 : y < 162
                · obtain rfl : y = 161 := by omega
                  exact mj_cy161
                · obtain rfl : y = 162 := by omega
                  exact mj_cy162
              · by_cases h164 : y < 164
                · obtain rfl : y = 163 := by omega
                  exact mj_cy163
                · obtain rfl : y = 164 := by omega
                  exact mj_cy164
          · by_cases h169 : y < 169
            · by_cases h167 : y < 167
              · by_cases h166 : y < 166
                · obtain rfl : y = 165 := by omega
                  exact mj_cy165
                · obtain rfl : y = 166 := by omega
                  exact mj_cy166
              · by_cases h168 : y < 168
                · obtain rfl : y = 167 := by omega
                  exact mj_cy167
                · obtain rfl : y = 168 := by omega
                  exact mj_cy168
            · by_cases h171 : y < 171
              · by_cases h170 : y < 170
                · obtain rfl : y = 169 := by omega
                  exact mj_cy169
                · obtain rfl : y = 170 := by omega
                  exact mj_cy170
              · by_cases h172 : y < 172
                · obtain rfl : y = 171 := by omega
                  exact mj_cy171
                · obtain rfl : y = 172 := by omega
                  exact mj_cy172
    · by_cases h202 : y < 202
      · by_cases h187 : y < 187
        · by_cases h180 : y < 180
          · by_cases h176 : y < 176
            · by_cases h174 : y < 174
              · obtain rfl : y = 173 := by omega
                exact mj_cy173
              · by_cases h175 : y < 175
                · obtain rfl : y = 174 := by omega
                  exact mj_cy174
                · obtain rfl : y = 175 := by omega
                  exact mj_cy175
            · by_cases h178 : y < 178
              · by_cases h177 : y < 177
                · obtain rfl : y = 176 := by omega
                  exact mj_cy176
                · obtain rfl : y = 177 := by omega
                  exact mj_cy177
              · by_cases h179 : y < 179
                · obtain rfl : y = 178 := by omega
                  exact mj_cy178
                · obtain rfl : y = 179 := by omega
                  exact mj_cy179
          · by_cases h183 : y < 183
            · by_cases h181 : y < 181
              · obtain rfl : y = 180 := by omega
                exact mj_cy180
              · by_cases h182 : y < 182
                · obtain rfl : y = 181 := by omega
                  exact mj_cy181
                · obtain rfl : y = 182 := by omega
                  exact mj_cy182
            · by_cases h185 : y < 185
              · by_cases h184 : y < 184
                · obtain rfl : y = 183 := by omega
                  exact mj_cy183
                · obtain rfl : y = 184 := by omega
                  exact mj_cy184
              · by_cases h186 : y < 186
                · obtain rfl : y = 185 := by omega
                  exact mj_cy185
                · obtain rfl : y = 186 := by omega
                  exact mj_cy186
        · by_cases h194 : y < 194
          · by_cases h190 : y < 190
            · by_cases h188 : y < 188
              · obtain rfl : y = 187 := by omega
                exact mj_cy187
              · by_cases h189 : y < 189
                · obtain rfl : y = 188 := by omega
                  exact mj_cy188
                · obtain rfl : y = 189 := by omega
                  exact mj_cy189
            · by_cases h192 : y < 192
              · by_cases h191 : y < 191
                · obtain rfl : y = 190 := by omega
                  exact mj_cy190
                · obtain rfl : y = 191 := by omega
                  exact mj_cy191
              · by_cases h193 : y < 193
                · obtain rfl : y = 192 := by omega
                  exact mj_cy192
                · obtain rfl : y = 193 := by omega
                  exact mj_cy193
          · by_cases h198 : y < 198
            · by_cases h196 : y < 196
              · by_cases h195 : y < 195
                · obtain rfl : y = 194 := by omega
                  exact mj_cy194
                · obtain rfl : y = 195 := by omega
                  exact mj_cy195
              · by_cases h197 : y < 197
                · obtain rfl : y = 196 := by omega
                  exact mj_cy196
                · obtain rfl : y = 197 := by omega
                  exact mj_cy197
            · by_cases h200 : y < 200
              · by_cases h199 : y < 199
                · obtain rfl : y = 198 := by omega
                  exact mj_cy198
                · obtain rfl : y = 199 := by omega
                  exact mj_cy199
              · by_cases h201 : y < 201
                · obtain rfl : y = 200 := by omega
                  exact mj_cy200
                · obtain rfl : y = 201 := by omega
                  exact mj_cy201
      · by_cases h216 : y < 216
        · by_cases h209 : y < 209
          · by_cases h205 : y < 205
            · by_cases h203 : y < 203
              · obtain rfl : y = 202 := by omega
                exact mj_cy202
              · by_cases h204 : y < 204
                · obtain rfl : y = 203 := by omega
                  exact mj_cy203
                · obtain rfl : y = 204 := by omega
                  exact mj_cy204
            · by_cases h207 : y < 207
              · by_cases h206 : y < 206
                · obtain rfl : y = 205 := by omega
                  exact mj_cy205
                · obtain rfl : y = 206 := by omega
                  exact mj_cy206
              · by_cases h208 : y < 208
                · obtain rfl : y = 207 := by omega
                  exact mj_cy207
                · obtain rfl : y = 208 := by omega
                  exact mj_cy208
          · by_cases h212 : y < 212
            · by_cases h210 : y < 210
              · obtain rfl : y = 209 := by omega
                exact mj_cy209
              · by_cases h211 : y < 211
                · obtain rfl : y = 210 := by omega
                  exact mj_cy210
                · obtain rfl : y = 211 := by omega
                  exact mj_cy211
            · by_cases h214 : y < 214
              · by_cases h213 : y < 213
                · obtain rfl : y = 212 := by omega
                  exact mj_cy212
                · obtain rfl : y = 213 := by omega
                  exact mj_cy213
              · by_cases h215 : y < 215
                · obtain rfl : y = 214 := by omega
                  exact mj_cy214
                · obtain rfl : y = 215 := by omega
                  exact mj_cy215
        · by_cases h223 : y < 223
          · by_cases h219 : y < 219
            · by_cases h217 : y < 217
              · obtain rfl : y = 216 := by omega
                exact mj_cy216
              · by_cases h218 : y < 218
                · obtain rfl : y = 217 := by omega
                  exact mj_cy217
                · obtain rfl : y = 218 := by omega
                  exact mj_cy218
            · by_cases h221 : y < 221
              · by_cases h220 : y < 220
                · obtain rfl : y = 219 := by omega
                  exact mj_cy219
                · obtain rfl : y = 220 := by omega
                  exact mj_cy220
              · by_cases h222 : y < 222
                · obtain rfl : y = 221 := by omega
                  exact mj_cy221
                · obtain rfl : y = 222 := by omega
                  exact mj_cy222
          · by_cases h227 : y < 227
            · by_cases h225 : y < 225
              · by_cases h224 : y < 224
                · obtain rfl : y = 223 := by omega
                  exact mj_cy223
                · obtain rfl : y = 224 := by omega
                  exact mj_cy224
              · by_cases h226 : y < 226
                · obtain rfl : y = 225 := by omega
                  exact mj_cy225
                · obtain rfl : y = 226 := by omega
                  exact mj_cy226
            · by_cases h229 : y < 229
              · by_cases h228 : y < 228
                · obtain rfl : y = 227 := by omega
                  exact mj_cy227
                · obtain rfl : y = 228 := by omega
                  exact mj_cy228
              · by_cases h230 : y < 230
                · obtain rfl : y = 229 := by omega
                  exact mj_cy229
                · obtain rfl : y = 230 := by omega
                  exact mj_cy230

theorem mj_cwin {y : Nat} (h0 : 0 < y) (hy : y < mj_nm) : Cond.code (mj_N y) (mj_B y) (mj_L y) (mj_R y) ∈ mj_Wg := List.mem_filter.mpr ⟨mj_call y h0 hy, rfl⟩
theorem mj_csm {y : Nat} (hy : y < mj_nm) : mj_L y ≤ 40 ∧ plainName (mj_N y).cls = true ∧ (mj_N y).cls ≠ "java/lang/invoke/MethodHandle" ∧ (mj_N y).cls ≠ "java/lang/invoke/VarHandle" := by
  have h := List.all_eq_true.mp mj_cwsm y (List.mem_range.mpr hy)
  simp only [Bool.and_eq_true, decide_eq_true_eq] at h
  exact ⟨h.1.1, h.1.2, h.2.1, h.2.2⟩
theorem mj_wdgood {y y' : Nat} (h0 : 0 < y') (hy : y' < mj_nm) : GoodIn mj_Wg (mj_wd y') := by
  intro w hw
  rcases List.mem_cons.mp hw with rfl | hw
  · exact ⟨mj_cwin h0 hy, good_of_word rfl⟩
  · exact ⟨hw, good_of_word (List.mem_filter.mp hw).2⟩
theorem mj_ckn_s {b c : Nat} (h : mj_ckn b c = true) : b < mj_nm ∧ (parseMethodDescriptor (mj_N b).desc).map (fun d => d.parameters.length) = some c := by
  unfold mj_ckn at h
  simp only [Bool.and_eq_true, decide_eq_true_eq] at h
  exact ⟨Nat.blt_eq.mp h.1, h.2⟩
