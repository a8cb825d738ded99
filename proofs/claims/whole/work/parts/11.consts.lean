theorem kc_im1 : Int32.ofInt (-1) = (-1) := by decide
theorem kc_i0 : Int32.ofInt 0 = 0 := by decide
theorem kc_i1 : Int32.ofInt 1 = 1 := by decide
theorem kc_i2 : Int32.ofInt 2 = 2 := by decide
theorem kc_i3 : Int32.ofInt 3 = 3 := by decide
theorem kc_i4 : Int32.ofInt 4 = 4 := by decide
theorem kc_i5 : Int32.ofInt 5 = 5 := by decide
theorem kc_bm2 : (Int8.ofInt (-2)).toInt32 = (-2) := by decide
theorem kc_b6 : (Int8.ofInt 6).toInt32 = 6 := by decide
theorem kc_b8 : (Int8.ofInt 8).toInt32 = 8 := by decide
theorem kc_b9 : (Int8.ofInt 9).toInt32 = 9 := by decide
theorem kc_b12 : (Int8.ofInt 12).toInt32 = 12 := by decide
theorem kc_b13 : (Int8.ofInt 13).toInt32 = 13 := by decide
theorem kc_b16 : (Int8.ofInt 16).toInt32 = 16 := by decide
theorem kc_b24 : (Int8.ofInt 24).toInt32 = 24 := by decide
theorem kc_b26 : (Int8.ofInt 26).toInt32 = 26 := by decide
theorem kc_b27 : (Int8.ofInt 27).toInt32 = 27 := by decide
theorem kc_b32 : (Int8.ofInt 32).toInt32 = 32 := by decide
theorem kc_b40 : (Int8.ofInt 40).toInt32 = 40 := by decide
theorem kc_b60 : (Int8.ofInt 60).toInt32 = 60 := by decide
theorem kc_b61 : (Int8.ofInt 61).toInt32 = 61 := by decide
theorem kc_b62 : (Int8.ofInt 62).toInt32 = 62 := by decide
theorem kc_b63 : (Int8.ofInt 63).toInt32 = 63 := by decide
theorem kc_b99 : (Int8.ofInt 99).toInt32 = 99 := by decide
theorem kc_b100 : (Int8.ofInt 100).toInt32 = 100 := by decide
theorem kc_b102 : (Int8.ofInt 102).toInt32 = 102 := by decide
theorem kc_b103 : (Int8.ofInt 103).toInt32 = 103 := by decide
theorem kc_b106 : (Int8.ofInt 106).toInt32 = 106 := by decide
theorem kc_b108 : (Int8.ofInt 108).toInt32 = 108 := by decide
theorem kc_b112 : (Int8.ofInt 112).toInt32 = 112 := by decide
theorem kc_b114 : (Int8.ofInt 114).toInt32 = 114 := by decide
theorem kc_b117 : (Int8.ofInt 117).toInt32 = 117 := by decide
theorem kc_b120 : (Int8.ofInt 120).toInt32 = 120 := by decide
theorem kc_s240 : (Int16.ofInt 240).toInt32 = 240 := by decide
theorem kc_s300 : (Int16.ofInt 300).toInt32 = 300 := by decide
theorem kc_s360 : (Int16.ofInt 360).toInt32 = 360 := by decide
theorem kc_s512 : (Int16.ofInt 512).toInt32 = 512 := by decide
theorem kc_s1000 : (Int16.ofInt 1000).toInt32 = 1000 := by decide
theorem kc_s1024 : (Int16.ofInt 1024).toInt32 = 1024 := by decide
theorem kc_s1200 : (Int16.ofInt 1200).toInt32 = 1200 := by decide
theorem dfX0 : ∀ j, j < 3 → defaultValue (tyX0 j) = vp_V (([rV none, iV 0, iV 0] : List Tv).map toV) j := fun j hj => by
  match j, hj with
  | 0, _ => rfl
  | 1, _ => rfl
  | 2, _ => rfl
  | k + 3, hk => exact absurd hk (by omega)
theorem dfX1 : ∀ j, j < 4 → defaultValue (tyX1 j) = vp_V (([iV 0, iV 0, iV 0, iV 0] : List Tv).map toV) j := fun j hj => by
  match j, hj with
  | 0, _ => rfl
  | 1, _ => rfl
  | 2, _ => rfl
  | 3, _ => rfl
  | k + 4, hk => exact absurd hk (by omega)
theorem dfX2 : ∀ j, j < 6 → defaultValue (tyX2 j) = vp_V (([rV none, rV none, rV none, iV 0, iV 0, iV 0] : List Tv).map toV) j := fun j hj => by
  match j, hj with
  | 0, _ => rfl
  | 1, _ => rfl
  | 2, _ => rfl
  | 3, _ => rfl
  | 4, _ => rfl
  | 5, _ => rfl
  | k + 6, hk => exact absurd hk (by omega)
theorem dfX3 : ∀ j, j < 5 → defaultValue (tyX3 j) = vp_V (([iV 0, rV none, iV 0, rV none, iV 0] : List Tv).map toV) j := fun j hj => by
  match j, hj with
  | 0, _ => rfl
  | 1, _ => rfl
  | 2, _ => rfl
  | 3, _ => rfl
  | 4, _ => rfl
  | k + 5, hk => exact absurd hk (by omega)
theorem dfX4 : ∀ j, j < 4 → defaultValue (tyX4 j) = vp_V (([iV 0, iV 0, iV 0, iV 0] : List Tv).map toV) j := fun j hj => by
  match j, hj with
  | 0, _ => rfl
  | 1, _ => rfl
  | 2, _ => rfl
  | 3, _ => rfl
  | k + 4, hk => exact absurd hk (by omega)
theorem dfX5 : ∀ j, j < 7 → defaultValue (tyX5 j) = vp_V (([iV 0, rV none, rV none, rV none, rV none, rV none, lV 0] : List Tv).map toV) j := fun j hj => by
  match j, hj with
  | 0, _ => rfl
  | 1, _ => rfl
  | 2, _ => rfl
  | 3, _ => rfl
  | 4, _ => rfl
  | 5, _ => rfl
  | 6, _ => rfl
  | k + 7, hk => exact absurd hk (by omega)
theorem dfX6 : ∀ j, j < 7 → defaultValue (tyX6 j) = vp_V (([rV none, rV none, rV none, rV none, rV none, rV none, rV none] : List Tv).map toV) j := fun j hj => by
  match j, hj with
  | 0, _ => rfl
  | 1, _ => rfl
  | 2, _ => rfl
  | 3, _ => rfl
  | 4, _ => rfl
  | 5, _ => rfl
  | 6, _ => rfl
  | k + 7, hk => exact absurd hk (by omega)
theorem dfX7 : ∀ j, j < 6 → defaultValue (tyX7 j) = vp_V (([rV none, iV 0, rV none, iV 0, rV none, iV 0] : List Tv).map toV) j := fun j hj => by
  match j, hj with
  | 0, _ => rfl
  | 1, _ => rfl
  | 2, _ => rfl
  | 3, _ => rfl
  | 4, _ => rfl
  | 5, _ => rfl
  | k + 6, hk => exact absurd hk (by omega)
theorem dfX8 : ∀ j, j < 16 → defaultValue (tyX8 j) = vp_V (([rV none, rV none, rV none, rV none, rV none, rV none, rV none, iV 0, iV 0, iV 0, lV 0, iV 0, iV 0, iV 0, iV 0, lV 0] : List Tv).map toV) j := fun j hj => by
  match j, hj with
  | 0, _ => rfl
  | 1, _ => rfl
  | 2, _ => rfl
  | 3, _ => rfl
  | 4, _ => rfl
  | 5, _ => rfl
  | 6, _ => rfl
  | 7, _ => rfl
  | 8, _ => rfl
  | 9, _ => rfl
  | 10, _ => rfl
  | 11, _ => rfl
  | 12, _ => rfl
  | 13, _ => rfl
  | 14, _ => rfl
  | 15, _ => rfl
  | k + 16, hk => exact absurd hk (by omega)
theorem dfX9 : ∀ j, j < 4 → defaultValue (tyX9 j) = vp_V (([rV none, iV 0, rV none, iV 0] : List Tv).map toV) j := fun j hj => by
  match j, hj with
  | 0, _ => rfl
  | 1, _ => rfl
  | 2, _ => rfl
  | 3, _ => rfl
  | k + 4, hk => exact absurd hk (by omega)
theorem dfX10 : ∀ j, j < 13 → defaultValue (tyX10 j) = vp_V (([iV 0, iV 0, iV 0, iV 0, rV none, rV none, rV none, rV none, iV 0, iV 0, rV none, rV none, rV none] : List Tv).map toV) j := fun j hj => by
  match j, hj with
  | 0, _ => rfl
  | 1, _ => rfl
  | 2, _ => rfl
  | 3, _ => rfl
  | 4, _ => rfl
  | 5, _ => rfl
  | 6, _ => rfl
  | 7, _ => rfl
  | 8, _ => rfl
  | 9, _ => rfl
  | 10, _ => rfl
  | 11, _ => rfl
  | 12, _ => rfl
  | k + 13, hk => exact absurd hk (by omega)
theorem dfX11 : ∀ j, j < 12 → defaultValue (tyX11 j) = vp_V (([rV none, rV none, iV 0, rV none, rV none, rV none, rV none, rV none, rV none, rV none, rV none, rV none] : List Tv).map toV) j := fun j hj => by
  match j, hj with
  | 0, _ => rfl
  | 1, _ => rfl
  | 2, _ => rfl
  | 3, _ => rfl
  | 4, _ => rfl
  | 5, _ => rfl
  | 6, _ => rfl
  | 7, _ => rfl
  | 8, _ => rfl
  | 9, _ => rfl
  | 10, _ => rfl
  | 11, _ => rfl
  | k + 12, hk => exact absurd hk (by omega)
theorem dfX12 : ∀ j, j < 56 → defaultValue (tyX12 j) = vp_V (([iV 0, iV 0, rV none, rV none, rV none, rV none, rV none, rV none, rV none, rV none, rV none, rV none, rV none, iV 0, rV none, rV none, iV 0, rV none, rV none, iV 0, rV none, rV none, iV 0, iV 0, iV 0, rV none, rV none, rV none, rV none, rV none, rV none, rV none, rV none, rV none, rV none, rV none, rV none, rV none, iV 0, rV none, rV none, rV none, rV none, rV none, rV none, iV 0, rV none, rV none, rV none, iV 0, iV 0, rV none, iV 0, rV none, rV none, iV 0] : List Tv).map toV) j := fun j hj => by
  match j, hj with
  | 0, _ => rfl
  | 1, _ => rfl
  | 2, _ => rfl
  | 3, _ => rfl
  | 4, _ => rfl
  | 5, _ => rfl
  | 6, _ => rfl
  | 7, _ => rfl
  | 8, _ => rfl
  | 9, _ => rfl
  | 10, _ => rfl
  | 11, _ => rfl
  | 12, _ => rfl
  | 13, _ => rfl
  | 14, _ => rfl
  | 15, _ => rfl
  | 16, _ => rfl
  | 17, _ => rfl
  | 18, _ => rfl
  | 19, _ => rfl
  | 20, _ => rfl
  | 21, _ => rfl
  | 22, _ => rfl
  | 23, _ => rfl
  | 24, _ => rfl
  | 25, _ => rfl
  | 26, _ => rfl
  | 27, _ => rfl
  | 28, _ => rfl
  | 29, _ => rfl
  | 30, _ => rfl
  | 31, _ => rfl
  | 32, _ => rfl
  | 33, _ => rfl
  | 34, _ => rfl
  | 35, _ => rfl
  | 36, _ => rfl
  | 37, _ => rfl
  | 38, _ => rfl
  | 39, _ => rfl
  | 40, _ => rfl
  | 41, _ => rfl
  | 42, _ => rfl
  | 43, _ => rfl
  | 44, _ => rfl
  | 45, _ => rfl
  | 46, _ => rfl
  | 47, _ => rfl
  | 48, _ => rfl
  | 49, _ => rfl
  | 50, _ => rfl
  | 51, _ => rfl
  | 52, _ => rfl
  | 53, _ => rfl
  | 54, _ => rfl
  | 55, _ => rfl
  | k + 56, hk => exact absurd hk (by omega)
theorem cfX0 : CF 0 RX0 TX0 3 tyX0 := ⟨rfl, fun w hw => by
  obtain ⟨k, hk, rfl⟩ := List.mem_map.mp hw
  rw [List.mem_range] at hk
  match k, hk with
  | 0, _ => exact tw1_69
  | 1, _ => exact tw1_71
  | 2, _ => exact tw1_73
  | k + 3, hk => exact absurd hk (by omega), tyX0_ok, nmX0⟩
theorem cfX1 : CF 1 RX1 TX1 4 tyX1 := ⟨rfl, fun w hw => by
  obtain ⟨k, hk, rfl⟩ := List.mem_map.mp hw
  rw [List.mem_range] at hk
  match k, hk with
  | 0, _ => exact tw6_27
  | 1, _ => exact tw6_29
  | 2, _ => exact tw6_31
  | 3, _ => exact tw6_33
  | k + 4, hk => exact absurd hk (by omega), tyX1_ok, nmX1⟩
theorem cfX2 : CF 2 RX2 TX2 6 tyX2 := ⟨rfl, fun w hw => by
  obtain ⟨k, hk, rfl⟩ := List.mem_map.mp hw
  rw [List.mem_range] at hk
  match k, hk with
  | 0, _ => exact tw1_205
  | 1, _ => exact tw1_207
  | 2, _ => exact tw1_209
  | 3, _ => exact tw1_211
  | 4, _ => exact tw1_213
  | 5, _ => exact tw1_215
  | k + 6, hk => exact absurd hk (by omega), tyX2_ok, nmX2⟩
theorem cfX3 : CF 3 RX3 TX3 5 tyX3 := ⟨rfl, fun w hw => by
  obtain ⟨k, hk, rfl⟩ := List.mem_map.mp hw
  rw [List.mem_range] at hk
  match k, hk with
  | 0, _ => exact tw5_108
  | 1, _ => exact tw5_110
  | 2, _ => exact tw5_112
  | 3, _ => exact tw5_114
  | 4, _ => exact tw5_116
  | k + 5, hk => exact absurd hk (by omega), tyX3_ok, nmX3⟩
theorem cfX4 : CF 4 RX4 TX4 4 tyX4 := ⟨rfl, fun w hw => by
  obtain ⟨k, hk, rfl⟩ := List.mem_map.mp hw
  rw [List.mem_range] at hk
  match k, hk with
  | 0, _ => exact tw6_60
  | 1, _ => exact tw6_62
  | 2, _ => exact tw6_64
  | 3, _ => exact tw6_66
  | k + 4, hk => exact absurd hk (by omega), tyX4_ok, nmX4⟩
theorem cfX5 : CF 5 RX5 TX5 7 tyX5 := ⟨rfl, fun w hw => by
  obtain ⟨k, hk, rfl⟩ := List.mem_map.mp hw
  rw [List.mem_range] at hk
  match k, hk with
  | 0, _ => exact tw1_96
  | 1, _ => exact tw1_98
  | 2, _ => exact tw1_100
  | 3, _ => exact tw1_102
  | 4, _ => exact tw1_104
  | 5, _ => exact tw1_106
  | 6, _ => exact tw1_108
  | k + 7, hk => exact absurd hk (by omega), tyX5_ok, nmX5⟩
theorem cfX6 : CF 6 RX6 TX6 7 tyX6 := ⟨rfl, fun w hw => by
  obtain ⟨k, hk, rfl⟩ := List.mem_map.mp hw
  rw [List.mem_range] at hk
  match k, hk with
  | 0, _ => exact tw1_119
  | 1, _ => exact tw1_121
  | 2, _ => exact tw1_123
  | 3, _ => exact tw1_125
  | 4, _ => exact tw1_127
  | 5, _ => exact tw1_129
  | 6, _ => exact tw1_131
  | k + 7, hk => exact absurd hk (by omega), tyX6_ok, nmX6⟩
theorem cfX7 : CF 7 RX7 TX7 6 tyX7 := ⟨rfl, fun w hw => by
  obtain ⟨k, hk, rfl⟩ := List.mem_map.mp hw
  rw [List.mem_range] at hk
  match k, hk with
  | 0, _ => exact tw5_211
  | 1, _ => exact tw5_213
  | 2, _ => exact tw5_215
  | 3, _ => exact tw5_217
  | 4, _ => exact tw5_219
  | 5, _ => exact tw5_221
  | k + 6, hk => exact absurd hk (by omega), tyX7_ok, nmX7⟩
theorem cfX8 : CF 8 RX8 TX8 16 tyX8 := ⟨rfl, fun w hw => by
  obtain ⟨k, hk, rfl⟩ := List.mem_map.mp hw
  rw [List.mem_range] at hk
  match k, hk with
  | 0, _ => exact tw1_158
  | 1, _ => exact tw1_160
  | 2, _ => exact tw1_162
  | 3, _ => exact tw1_164
  | 4, _ => exact tw1_166
  | 5, _ => exact tw1_168
  | 6, _ => exact tw1_170
  | 7, _ => exact tw1_172
  | 8, _ => exact tw1_174
  | 9, _ => exact tw1_176
  | 10, _ => exact tw1_178
  | 11, _ => exact tw1_180
  | 12, _ => exact tw1_182
  | 13, _ => exact tw1_184
  | 14, _ => exact tw1_186
  | 15, _ => exact tw1_188
  | k + 16, hk => exact absurd hk (by omega), tyX8_ok, nmX8⟩
theorem cfX9 : CF 9 RX9 TX9 4 tyX9 := ⟨rfl, fun w hw => by
  obtain ⟨k, hk, rfl⟩ := List.mem_map.mp hw
  rw [List.mem_range] at hk
  match k, hk with
  | 0, _ => exact tw1_49
  | 1, _ => exact tw1_51
  | 2, _ => exact tw1_53
  | 3, _ => exact tw1_55
  | k + 4, hk => exact absurd hk (by omega), tyX9_ok, nmX9⟩
theorem cfX10 : CF 10 RX10 TX10 13 tyX10 := ⟨rfl, fun w hw => by
  obtain ⟨k, hk, rfl⟩ := List.mem_map.mp hw
  rw [List.mem_range] at hk
  match k, hk with
  | 0, _ => exact tw4_108
  | 1, _ => exact tw4_110
  | 2, _ => exact tw4_112
  | 3, _ => exact tw4_114
  | 4, _ => exact tw4_116
  | 5, _ => exact tw4_118
  | 6, _ => exact tw4_120
  | 7, _ => exact tw4_122
  | 8, _ => exact tw4_124
  | 9, _ => exact tw4_126
  | 10, _ => exact tw4_128
  | 11, _ => exact tw4_130
  | 12, _ => exact tw4_132
  | k + 13, hk => exact absurd hk (by omega), tyX10_ok, nmX10⟩
theorem cfX11 : CF 11 RX11 TX11 12 tyX11 := ⟨rfl, fun w hw => by
  obtain ⟨k, hk, rfl⟩ := List.mem_map.mp hw
  rw [List.mem_range] at hk
  match k, hk with
  | 0, _ => exact tw1_230
  | 1, _ => exact tw1_232
  | 2, _ => exact tw1_234
  | 3, _ => exact tw1_236
  | 4, _ => exact tw1_238
  | 5, _ => exact tw2_0
  | 6, _ => exact tw2_2
  | 7, _ => exact tw2_4
  | 8, _ => exact tw2_6
  | 9, _ => exact tw2_8
  | 10, _ => exact tw2_10
  | 11, _ => exact tw2_12
  | k + 12, hk => exact absurd hk (by omega), tyX11_ok, nmX11⟩
theorem cfX12 : CF 12 RX12 TX12 56 tyX12 := ⟨rfl, fun w hw => by
  obtain ⟨k, hk, rfl⟩ := List.mem_map.mp hw
  rw [List.mem_range] at hk
  match k, hk with
  | 0, _ => exact tw7_139
  | 1, _ => exact tw7_141
  | 2, _ => exact tw7_143
  | 3, _ => exact tw7_145
  | 4, _ => exact tw7_147
  | 5, _ => exact tw7_149
  | 6, _ => exact tw7_151
  | 7, _ => exact tw7_153
  | 8, _ => exact tw7_155
  | 9, _ => exact tw7_157
  | 10, _ => exact tw7_159
  | 11, _ => exact tw7_161
  | 12, _ => exact tw7_163
  | 13, _ => exact tw7_165
  | 14, _ => exact tw7_167
  | 15, _ => exact tw7_169
  | 16, _ => exact tw7_171
  | 17, _ => exact tw7_173
  | 18, _ => exact tw7_175
  | 19, _ => exact tw7_177
  | 20, _ => exact tw7_179
  | 21, _ => exact tw7_181
  | 22, _ => exact tw7_183
  | 23, _ => exact tw7_185
  | 24, _ => exact tw7_187
  | 25, _ => exact tw7_189
  | 26, _ => exact tw7_191
  | 27, _ => exact tw7_193
  | 28, _ => exact tw7_195
  | 29, _ => exact tw7_197
  | 30, _ => exact tw7_199
  | 31, _ => exact tw7_201
  | 32, _ => exact tw7_203
  | 33, _ => exact tw7_205
  | 34, _ => exact tw7_207
  | 35, _ => exact tw7_209
  | 36, _ => exact tw7_211
  | 37, _ => exact tw7_213
  | 38, _ => exact tw7_215
  | 39, _ => exact tw7_217
  | 40, _ => exact tw7_219
  | 41, _ => exact tw7_221
  | 42, _ => exact tw7_223
  | 43, _ => exact tw7_225
  | 44, _ => exact tw7_227
  | 45, _ => exact tw7_229
  | 46, _ => exact tw7_231
  | 47, _ => exact tw7_233
  | 48, _ => exact tw7_235
  | 49, _ => exact tw7_237
  | 50, _ => exact tw7_239
  | 51, _ => exact tw8_1
  | 52, _ => exact tw8_3
  | 53, _ => exact tw8_5
  | 54, _ => exact tw8_7
  | 55, _ => exact tw8_9
  | k + 56, hk => exact absurd hk (by omega), tyX12_ok, nmX12⟩
