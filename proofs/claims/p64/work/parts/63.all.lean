/-! all of them -/
theorem xz_pick {l : List Nat} (h : l.all xz_chk = true) {n : Nat} (hn : n ∈ l) : xz_chk n = true := List.all_eq_true.mp h n hn
theorem xz_hc : ∀ n, n < 419 → n ∈ xz_sp ∨ xz_chk n = true := by
  intro n hn
  by_cases h0 : n < 12
  · have hm : n ∈ [0, 1, 2, 3, 4, 5, 6, 7, 8, 9, 10, 11] := by
      have : 0 ≤ n := by omega
      simp only [List.mem_cons, List.not_mem_nil, or_false]; omega
    simp only [List.mem_cons, List.not_mem_nil, or_false] at hm
    exact Or.inr (xz_pick xz_c0 (by simp only [List.mem_cons, List.not_mem_nil, or_false]; omega))
  by_cases h12 : n < 27
  · have hm : n ∈ [12, 13, 14, 15, 16, 17, 18, 19, 20, 21, 22, 23, 24, 25, 26] := by
      have : 12 ≤ n := by omega
      simp only [List.mem_cons, List.not_mem_nil, or_false]; omega
    simp only [List.mem_cons, List.not_mem_nil, or_false] at hm
    exact Or.inr (xz_pick xz_c12 (by simp only [List.mem_cons, List.not_mem_nil, or_false]; omega))
  by_cases h27 : n < 48
  · have hm : n ∈ [27, 28, 29, 30, 31, 32, 33, 34, 35, 36, 37, 38, 39, 40, 41, 42, 43, 44, 45, 46, 47] := by
      have : 27 ≤ n := by omega
      simp only [List.mem_cons, List.not_mem_nil, or_false]; omega
    simp only [List.mem_cons, List.not_mem_nil, or_false] at hm
    rcases hm with rfl | rfl | rfl | rfl | rfl | rfl | rfl | rfl | rfl | rfl | rfl | rfl | rfl | rfl | rfl | rfl | rfl | rfl | rfl | rfl | rfl
    · exact Or.inr (xz_pick xz_c27 (by decide))
    · exact Or.inr (xz_pick xz_c27 (by decide))
    · exact Or.inr (xz_pick xz_c27 (by decide))
    · exact Or.inr (xz_pick xz_c27 (by decide))
    · exact Or.inr (xz_pick xz_c27 (by decide))
    · exact Or.inr (xz_pick xz_c27 (by decide))
    · exact Or.inr (xz_pick xz_c27 (by decide))
    · exact Or.inr (xz_pick xz_c27 (by decide))
    · exact Or.inr (xz_pick xz_c27 (by decide))
    · exact Or.inr (xz_pick xz_c27 (by decide))
    · exact Or.inr (xz_pick xz_c27 (by decide))
    · exact Or.inr (xz_pick xz_c27 (by decide))
    · exact Or.inr (xz_pick xz_c27 (by decide))
    · exact Or.inr (xz_pick xz_c27 (by decide))
    · exact Or.inr (xz_pick xz_c27 (by decide))
    · exact Or.inr (xz_pick xz_c27 (by decide))
    · exact Or.inr (xz_pick xz_c27 (by decide))
    · exact Or.inr (xz_pick xz_c27 (by decide))
    · exact Or.inr (xz_pick xz_c27 (by decide))
    · exact Or.inr (xz_pick xz_c27 (by decide))
    · exact Or.inl (by decide)
  by_cases h48 : n < 49
  · have hm : n ∈ [48] := by
      have : 48 ≤ n := by omega
      simp only [List.mem_cons, List.not_mem_nil, or_false]; omega
    simp only [List.mem_cons, List.not_mem_nil, or_false] at hm
    exact Or.inr (xz_pick xz_c48 (by simp only [List.mem_cons, List.not_mem_nil, or_false]; omega))
  by_cases h49 : n < 50
  · have hm : n ∈ [49] := by
      have : 49 ≤ n := by omega
      simp only [List.mem_cons, List.not_mem_nil, or_false]; omega
    simp only [List.mem_cons, List.not_mem_nil, or_false] at hm
    exact Or.inr (xz_pick xz_c49 (by simp only [List.mem_cons, List.not_mem_nil, or_false]; omega))
  by_cases h50 : n < 58
  · have hm : n ∈ [50, 51, 52, 53, 54, 55, 56, 57] := by
      have : 50 ≤ n := by omega
      simp only [List.mem_cons, List.not_mem_nil, or_false]; omega
    simp only [List.mem_cons, List.not_mem_nil, or_false] at hm
    exact Or.inr (xz_pick xz_c50 (by simp only [List.mem_cons, List.not_mem_nil, or_false]; omega))
  by_cases h58 : n < 74
  · have hm : n ∈ [58, 59, 60, 61, 62, 63, 64, 65, 66, 67, 68, 69, 70, 71, 72, 73] := by
      have : 58 ≤ n := by omega
      simp only [List.mem_cons, List.not_mem_nil, or_false]; omega
    simp only [List.mem_cons, List.not_mem_nil, or_false] at hm
    exact Or.inr (xz_pick xz_c58 (by simp only [List.mem_cons, List.not_mem_nil, or_false]; omega))
  by_cases h74 : n < 76
  · have hm : n ∈ [74, 75] := by
      have : 74 ≤ n := by omega
      simp only [List.mem_cons, List.not_mem_nil, or_false]; omega
    simp only [List.mem_cons, List.not_mem_nil, or_false] at hm
    exact Or.inr (xz_pick xz_c74 (by simp only [List.mem_cons, List.not_mem_nil, or_false]; omega))
  by_cases h76 : n < 97
  · have hm : n ∈ [76, 77, 78, 79, 80, 81, 82, 83, 84, 85, 86, 87, 88, 89, 90, 91, 92, 93, 94, 95, 96] := by
      have : 76 ≤ n := by omega
      simp only [List.mem_cons, List.not_mem_nil, or_false]; omega
    simp only [List.mem_cons, List.not_mem_nil, or_false] at hm
    exact Or.inr (xz_pick xz_c76 (by simp only [List.mem_cons, List.not_mem_nil, or_false]; omega))
  by_cases h97 : n < 117
  · have hm : n ∈ [97, 98, 99, 100, 101, 102, 103, 104, 105, 106, 107, 108, 109, 110, 111, 112, 113, 114, 115, 116] := by
      have : 97 ≤ n := by omega
      simp only [List.mem_cons, List.not_mem_nil, or_false]; omega
    simp only [List.mem_cons, List.not_mem_nil, or_false] at hm
    exact Or.inr (xz_pick xz_c97 (by simp only [List.mem_cons, List.not_mem_nil, or_false]; omega))
  by_cases h117 : n < 134
  · have hm : n ∈ [117, 118, 119, 120, 121, 122, 123, 124, 125, 126, 127, 128, 129, 130, 131, 132, 133] := by
      have : 117 ≤ n := by omega
      simp only [List.mem_cons, List.not_mem_nil, or_false]; omega
    simp only [List.mem_cons, List.not_mem_nil, or_false] at hm
    exact Or.inr (xz_pick xz_c117 (by simp only [List.mem_cons, List.not_mem_nil, or_false]; omega))
  by_cases h134 : n < 145
  · have hm : n ∈ [134, 135, 136, 137, 138, 139, 140, 141, 142, 143, 144] := by
      have : 134 ≤ n := by omega
      simp only [List.mem_cons, List.not_mem_nil, or_false]; omega
    simp only [List.mem_cons, List.not_mem_nil, or_false] at hm
    exact Or.inr (xz_pick xz_c134 (by simp only [List.mem_cons, List.not_mem_nil, or_false]; omega))
  by_cases h145 : n < 149
  · have hm : n ∈ [145, 146, 147, 148] := by
      have : 145 ≤ n := by omega
      simp only [List.mem_cons, List.not_mem_nil, or_false]; omega
    simp only [List.mem_cons, List.not_mem_nil, or_false] at hm
    exact Or.inr (xz_pick xz_c145 (by simp only [List.mem_cons, List.not_mem_nil, or_false]; omega))
  by_cases h149 : n < 153
  · have hm : n ∈ [149, 150, 151, 152] := by
      have : 149 ≤ n := by omega
      simp only [List.mem_cons, List.not_mem_nil, or_false]; omega
    simp only [List.mem_cons, List.not_mem_nil, or_false] at hm
    exact Or.inr (xz_pick xz_c149 (by simp only [List.mem_cons, List.not_mem_nil, or_false]; omega))
  by_cases h153 : n < 157
  · have hm : n ∈ [153, 154, 155, 156] := by
      have : 153 ≤ n := by omega
      simp only [List.mem_cons, List.not_mem_nil, or_false]; omega
    simp only [List.mem_cons, List.not_mem_nil, or_false] at hm
    exact Or.inr (xz_pick xz_c153 (by simp only [List.mem_cons, List.not_mem_nil, or_false]; omega))
  by_cases h157 : n < 161
  · have hm : n ∈ [157, 158, 159, 160] := by
      have : 157 ≤ n := by omega
      simp only [List.mem_cons, List.not_mem_nil, or_false]; omega
    simp only [List.mem_cons, List.not_mem_nil, or_false] at hm
    exact Or.inr (xz_pick xz_c157 (by simp only [List.mem_cons, List.not_mem_nil, or_false]; omega))
  by_cases h161 : n < 165
  · have hm : n ∈ [161, 162, 163, 164] := by
      have : 161 ≤ n := by omega
      simp only [List.mem_cons, List.not_mem_nil, or_false]; omega
    simp only [List.mem_cons, List.not_mem_nil, or_false] at hm
    exact Or.inr (xz_pick xz_c161 (by simp only [List.mem_cons, List.not_mem_nil, or_false]; omega))
  by_cases h165 : n < 169
  · have hm : n ∈ [165, 166, 167, 168] := by
      have : 165 ≤ n := by omega
      simp only [List.mem_cons, List.not_mem_nil, or_false]; omega
    simp only [List.mem_cons, List.not_mem_nil, or_false] at hm
    exact Or.inr (xz_pick xz_c165 (by simp only [List.mem_cons, List.not_mem_nil, or_false]; omega))
  by_cases h169 : n < 173
  · have hm : n ∈ [169, 170, 171, 172] := by
      have : 169 ≤ n := by omega
      simp only [List.mem_cons, List.not_mem_nil, or_false]; omega
    simp only [List.mem_cons, List.not_mem_nil, or_false] at hm
    exact Or.inr (xz_pick xz_c169 (by simp only [List.mem_cons, List.not_mem_nil, or_false]; omega))
  by_cases h173 : n < 177
  · have hm : n ∈ [173, 174, 175, 176] := by
      have : 173 ≤ n := by omega
      simp only [List.mem_cons, List.not_mem_nil, or_false]; omega
    simp only [List.mem_cons, List.not_mem_nil, or_false] at hm
    exact Or.inr (xz_pick xz_c173 (by simp only [List.mem_cons, List.not_mem_nil, or_false]; omega))
  by_cases h177 : n < 181
  · have hm : n ∈ [177, 178, 179, 180] := by
      have : 177 ≤ n := by omega
      simp only [List.mem_cons, List.not_mem_nil, or_false]; omega
    simp only [List.mem_cons, List.not_mem_nil, or_false] at hm
    exact Or.inr (xz_pick xz_c177 (by simp only [List.mem_cons, List.not_mem_nil, or_false]; omega))
  by_cases h181 : n < 185
  · have hm : n ∈ [181, 182, 183, 184] := by
      have : 181 ≤ n := by omega
      simp only [List.mem_cons, List.not_mem_nil, or_false]; omega
    simp only [List.mem_cons, List.not_mem_nil, or_false] at hm
    exact Or.inr (xz_pick xz_c181 (by simp only [List.mem_cons, List.not_mem_nil, or_false]; omega))
  by_cases h185 : n < 186
  · have hm : n ∈ [185] := by
      have : 185 ≤ n := by omega
      simp only [List.mem_cons, List.not_mem_nil, or_false]; omega
    simp only [List.mem_cons, List.not_mem_nil, or_false] at hm
    exact Or.inr (xz_pick xz_c185 (by simp only [List.mem_cons, List.not_mem_nil, or_false]; omega))
  by_cases h186 : n < 190
  · have hm : n ∈ [186, 187, 188, 189] := by
      have : 186 ≤ n := by omega
      simp only [List.mem_cons, List.not_mem_nil, or_false]; omega
    simp only [List.mem_cons, List.not_mem_nil, or_false] at hm
    exact Or.inr (xz_pick xz_c186 (by simp only [List.mem_cons, List.not_mem_nil, or_false]; omega))
  by_cases h190 : n < 194
  · have hm : n ∈ [190, 191, 192, 193] := by
      have : 190 ≤ n := by omega
      simp only [List.mem_cons, List.not_mem_nil, or_false]; omega
    simp only [List.mem_cons, List.not_mem_nil, or_false] at hm
    exact Or.inr (xz_pick xz_c190 (by simp only [List.mem_cons, List.not_mem_nil, or_false]; omega))
  by_cases h194 : n < 198
  · have hm : n ∈ [194, 195, 196, 197] := by
      have : 194 ≤ n := by omega
      simp only [List.mem_cons, List.not_mem_nil, or_false]; omega
    simp only [List.mem_cons, List.not_mem_nil, or_false] at hm
    exact Or.inr (xz_pick xz_c194 (by simp only [List.mem_cons, List.not_mem_nil, or_false]; omega))
  by_cases h198 : n < 202
  · have hm : n ∈ [198, 199, 200, 201] := by
      have : 198 ≤ n := by omega
      simp only [List.mem_cons, List.not_mem_nil, or_false]; omega
    simp only [List.mem_cons, List.not_mem_nil, or_false] at hm
    exact Or.inr (xz_pick xz_c198 (by simp only [List.mem_cons, List.not_mem_nil, or_false]; omega))
  by_cases h202 : n < 206
  · have hm : n ∈ [202, 203, 204, 205] := by
      have : 202 ≤ n := by omega
      simp only [List.mem_cons, List.not_mem_nil, or_false]; omega
    simp only [List.mem_cons, List.not_mem_nil, or_false] at hm
    exact Or.inr (xz_pick xz_c202 (by simp only [List.mem_cons, List.not_mem_nil, or_false]; omega))
  by_cases h206 : n < 210
  · have hm : n ∈ [206, 207, 208, 209] := by
      have : 206 ≤ n := by omega
      simp only [List.mem_cons, List.not_mem_nil, or_false]; omega
    simp only [List.mem_cons, List.not_mem_nil, or_false] at hm
    exact Or.inr (xz_pick xz_c206 (by simp only [List.mem_cons, List.not_mem_nil, or_false]; omega))
  by_cases h210 : n < 214
  · have hm : n ∈ [210, 211, 212, 213] := by
      have : 210 ≤ n := by omega
      simp only [List.mem_cons, List.not_mem_nil, or_false]; omega
    simp only [List.mem_cons, List.not_mem_nil, or_false] at hm
    exact Or.inr (xz_pick xz_c210 (by simp only [List.mem_cons, List.not_mem_nil, or_false]; omega))
  by_cases h214 : n < 215
  · have hm : n ∈ [214] := by
      have : 214 ≤ n := by omega
      simp only [List.mem_cons, List.not_mem_nil, or_false]; omega
    simp only [List.mem_cons, List.not_mem_nil, or_false] at hm
    exact Or.inr (xz_pick xz_c214 (by simp only [List.mem_cons, List.not_mem_nil, or_false]; omega))
  by_cases h215 : n < 219
  · have hm : n ∈ [215, 216, 217, 218] := by
      have : 215 ≤ n := by omega
      simp only [List.mem_cons, List.not_mem_nil, or_false]; omega
    simp only [List.mem_cons, List.not_mem_nil, or_false] at hm
    exact Or.inr (xz_pick xz_c215 (by simp only [List.mem_cons, List.not_mem_nil, or_false]; omega))
  by_cases h219 : n < 223
  · have hm : n ∈ [219, 220, 221, 222] := by
      have : 219 ≤ n := by omega
      simp only [List.mem_cons, List.not_mem_nil, or_false]; omega
    simp only [List.mem_cons, List.not_mem_nil, or_false] at hm
    exact Or.inr (xz_pick xz_c219 (by simp only [List.mem_cons, List.not_mem_nil, or_false]; omega))
  by_cases h223 : n < 227
  · have hm : n ∈ [223, 224, 225, 226] := by
      have : 223 ≤ n := by omega
      simp only [List.mem_cons, List.not_mem_nil, or_false]; omega
    simp only [List.mem_cons, List.not_mem_nil, or_false] at hm
    exact Or.inr (xz_pick xz_c223 (by simp only [List.mem_cons, List.not_mem_nil, or_false]; omega))
  by_cases h227 : n < 231
  · have hm : n ∈ [227, 228, 229, 230] := by
      have : 227 ≤ n := by omega
      simp only [List.mem_cons, List.not_mem_nil, or_false]; omega
    simp only [List.mem_cons, List.not_mem_nil, or_false] at hm
    exact Or.inr (xz_pick xz_c227 (by simp only [List.mem_cons, List.not_mem_nil, or_false]; omega))
  by_cases h231 : n < 235
  · have hm : n ∈ [231, 232, 233, 234] := by
      have : 231 ≤ n := by omega
      simp only [List.mem_cons, List.not_mem_nil, or_false]; omega
    simp only [List.mem_cons, List.not_mem_nil, or_false] at hm
    exact Or.inr (xz_pick xz_c231 (by simp only [List.mem_cons, List.not_mem_nil, or_false]; omega))
  by_cases h235 : n < 239
  · have hm : n ∈ [235, 236, 237, 238] := by
      have : 235 ≤ n := by omega
      simp only [List.mem_cons, List.not_mem_nil, or_false]; omega
    simp only [List.mem_cons, List.not_mem_nil, or_false] at hm
    exact Or.inr (xz_pick xz_c235 (by simp only [List.mem_cons, List.not_mem_nil, or_false]; omega))
  by_cases h239 : n < 243
  · have hm : n ∈ [239, 240, 241, 242] := by
      have : 239 ≤ n := by omega
      simp only [List.mem_cons, List.not_mem_nil, or_false]; omega
    simp only [List.mem_cons, List.not_mem_nil, or_false] at hm
    exact Or.inr (xz_pick xz_c239 (by simp only [List.mem_cons, List.not_mem_nil, or_false]; omega))
  by_cases h243 : n < 244
  · have hm : n ∈ [243] := by
      have : 243 ≤ n := by omega
      simp only [List.mem_cons, List.not_mem_nil, or_false]; omega
    simp only [List.mem_cons, List.not_mem_nil, or_false] at hm
    exact Or.inr (xz_pick xz_c243 (by simp only [List.mem_cons, List.not_mem_nil, or_false]; omega))
  by_cases h244 : n < 248
  · have hm : n ∈ [244, 245, 246, 247] := by
      have : 244 ≤ n := by omega
      simp only [List.mem_cons, List.not_mem_nil, or_false]; omega
    simp only [List.mem_cons, List.not_mem_nil, or_false] at hm
    exact Or.inr (xz_pick xz_c244 (by simp only [List.mem_cons, List.not_mem_nil, or_false]; omega))
  by_cases h248 : n < 252
  · have hm : n ∈ [248, 249, 250, 251] := by
      have : 248 ≤ n := by omega
      simp only [List.mem_cons, List.not_mem_nil, or_false]; omega
    simp only [List.mem_cons, List.not_mem_nil, or_false] at hm
    exact Or.inr (xz_pick xz_c248 (by simp only [List.mem_cons, List.not_mem_nil, or_false]; omega))
  by_cases h252 : n < 256
  · have hm : n ∈ [252, 253, 254, 255] := by
      have : 252 ≤ n := by omega
      simp only [List.mem_cons, List.not_mem_nil, or_false]; omega
    simp only [List.mem_cons, List.not_mem_nil, or_false] at hm
    exact Or.inr (xz_pick xz_c252 (by simp only [List.mem_cons, List.not_mem_nil, or_false]; omega))
  by_cases h256 : n < 260
  · have hm : n ∈ [256, 257, 258, 259] := by
      have : 256 ≤ n := by omega
      simp only [List.mem_cons, List.not_mem_nil, or_false]; omega
    simp only [List.mem_cons, List.not_mem_nil, or_false] at hm
    exact Or.inr (xz_pick xz_c256 (by simp only [List.mem_cons, List.not_mem_nil, or_false]; omega))
  by_cases h260 : n < 264
  · have hm : n ∈ [260, 261, 262, 263] := by
      have : 260 ≤ n := by omega
      simp only [List.mem_cons, List.not_mem_nil, or_false]; omega
    simp only [List.mem_cons, List.not_mem_nil, or_false] at hm
    exact Or.inr (xz_pick xz_c260 (by simp only [List.mem_cons, List.not_mem_nil, or_false]; omega))
  by_cases h264 : n < 268
  · have hm : n ∈ [264, 265, 266, 267] := by
      have : 264 ≤ n := by omega
      simp only [List.mem_cons, List.not_mem_nil, or_false]; omega
    simp only [List.mem_cons, List.not_mem_nil, or_false] at hm
    exact Or.inr (xz_pick xz_c264 (by simp only [List.mem_cons, List.not_mem_nil, or_false]; omega))
  by_cases h268 : n < 272
  · have hm : n ∈ [268, 269, 270, 271] := by
      have : 268 ≤ n := by omega
      simp only [List.mem_cons, List.not_mem_nil, or_false]; omega
    simp only [List.mem_cons, List.not_mem_nil, or_false] at hm
    exact Or.inr (xz_pick xz_c268 (by simp only [List.mem_cons, List.not_mem_nil, or_false]; omega))
  by_cases h272 : n < 273
  · have hm : n ∈ [272] := by
      have : 272 ≤ n := by omega
      simp only [List.mem_cons, List.not_mem_nil, or_false]; omega
    simp only [List.mem_cons, List.not_mem_nil, or_false] at hm
    exact Or.inr (xz_pick xz_c272 (by simp only [List.mem_cons, List.not_mem_nil, or_false]; omega))
  by_cases h273 : n < 281
  · have hm : n ∈ [273, 274, 275, 276, 277, 278, 279, 280] := by
      have : 273 ≤ n := by omega
      simp only [List.mem_cons, List.not_mem_nil, or_false]; omega
    simp only [List.mem_cons, List.not_mem_nil, or_false] at hm
    exact Or.inr (xz_pick xz_c273 (by simp only [List.mem_cons, List.not_mem_nil, or_false]; omega))
  by_cases h281 : n < 282
  · have hm : n ∈ [281] := by
      have : 281 ≤ n := by omega
      simp only [List.mem_cons, List.not_mem_nil, or_false]; omega
    simp only [List.mem_cons, List.not_mem_nil, or_false] at hm
    exact Or.inr (xz_pick xz_c281 (by simp only [List.mem_cons, List.not_mem_nil, or_false]; omega))
  by_cases h282 : n < 291
  · have hm : n ∈ [282, 283, 284, 285, 286, 287, 288, 289, 290] := by
      have : 282 ≤ n := by omega
      simp only [List.mem_cons, List.not_mem_nil, or_false]; omega
    simp only [List.mem_cons, List.not_mem_nil, or_false] at hm
    exact Or.inr (xz_pick xz_c282 (by simp only [List.mem_cons, List.not_mem_nil, or_false]; omega))
  by_cases h291 : n < 294
  · have hm : n ∈ [291, 292, 293] := by
      have : 291 ≤ n := by omega
      simp only [List.mem_cons, List.not_mem_nil, or_false]; omega
    simp only [List.mem_cons, List.not_mem_nil, or_false] at hm
    exact Or.inr (xz_pick xz_c291 (by simp only [List.mem_cons, List.not_mem_nil, or_false]; omega))
  by_cases h294 : n < 295
  · have hm : n ∈ [294] := by
      have : 294 ≤ n := by omega
      simp only [List.mem_cons, List.not_mem_nil, or_false]; omega
    simp only [List.mem_cons, List.not_mem_nil, or_false] at hm
    exact Or.inr (xz_pick xz_c294 (by simp only [List.mem_cons, List.not_mem_nil, or_false]; omega))
  by_cases h295 : n < 296
  · have hm : n ∈ [295] := by
      have : 295 ≤ n := by omega
      simp only [List.mem_cons, List.not_mem_nil, or_false]; omega
    simp only [List.mem_cons, List.not_mem_nil, or_false] at hm
    exact Or.inr (xz_pick xz_c295 (by simp only [List.mem_cons, List.not_mem_nil, or_false]; omega))
  by_cases h296 : n < 310
  · have hm : n ∈ [296, 297, 298, 299, 300, 301, 302, 303, 304, 305, 306, 307, 308, 309] := by
      have : 296 ≤ n := by omega
      simp only [List.mem_cons, List.not_mem_nil, or_false]; omega
    simp only [List.mem_cons, List.not_mem_nil, or_false] at hm
    rcases hm with rfl | rfl | rfl | rfl | rfl | rfl | rfl | rfl | rfl | rfl | rfl | rfl | rfl | rfl
    · exact Or.inr (xz_pick xz_c296 (by decide))
    · exact Or.inr (xz_pick xz_c296 (by decide))
    · exact Or.inr (xz_pick xz_c296 (by decide))
    · exact Or.inr (xz_pick xz_c296 (by decide))
    · exact Or.inr (xz_pick xz_c296 (by decide))
    · exact Or.inr (xz_pick xz_c296 (by decide))
    · exact Or.inr (xz_pick xz_c296 (by decide))
    · exact Or.inl (by decide)
    · exact Or.inr (xz_pick xz_c296 (by decide))
    · exact Or.inl (by decide)
    · exact Or.inr (xz_pick xz_c296 (by decide))
    · exact Or.inr (xz_pick xz_c296 (by decide))
    · exact Or.inr (xz_pick xz_c296 (by decide))
    · exact Or.inr (xz_pick xz_c296 (by decide))
  by_cases h310 : n < 311
  · have hm : n ∈ [310] := by
      have : 310 ≤ n := by omega
      simp only [List.mem_cons, List.not_mem_nil, or_false]; omega
    simp only [List.mem_cons, List.not_mem_nil, or_false] at hm
    exact Or.inr (xz_pick xz_c310 (by simp only [List.mem_cons, List.not_mem_nil, or_false]; omega))
  by_cases h311 : n < 312
  · have hm : n ∈ [311] := by
      have : 311 ≤ n := by omega
      simp only [List.mem_cons, List.not_mem_nil, or_false]; omega
    simp only [List.mem_cons, List.not_mem_nil, or_false] at hm
    exact Or.inr (xz_pick xz_c311 (by simp only [List.mem_cons, List.not_mem_nil, or_false]; omega))
  by_cases h312 : n < 316
  · have hm : n ∈ [312, 313, 314, 315] := by
      have : 312 ≤ n := by omega
      simp only [List.mem_cons, List.not_mem_nil, or_false]; omega
    simp only [List.mem_cons, List.not_mem_nil, or_false] at hm
    exact Or.inr (xz_pick xz_c312 (by simp only [List.mem_cons, List.not_mem_nil, or_false]; omega))
  by_cases h316 : n < 326
  · have hm : n ∈ [316, 317, 318, 319, 320, 321, 322, 323, 324, 325] := by
      have : 316 ≤ n := by omega
      simp only [List.mem_cons, List.not_mem_nil, or_false]; omega
    simp only [List.mem_cons, List.not_mem_nil, or_false] at hm
    exact Or.inr (xz_pick xz_c316 (by simp only [List.mem_cons, List.not_mem_nil, or_false]; omega))
  by_cases h326 : n < 327
  · have hm : n ∈ [326] := by
      have : 326 ≤ n := by omega
      simp only [List.mem_cons, List.not_mem_nil, or_false]; omega
    simp only [List.mem_cons, List.not_mem_nil, or_false] at hm
    exact Or.inr (xz_pick xz_c326 (by simp only [List.mem_cons, List.not_mem_nil, or_false]; omega))
  by_cases h327 : n < 328
  · have hm : n ∈ [327] := by
      have : 327 ≤ n := by omega
      simp only [List.mem_cons, List.not_mem_nil, or_false]; omega
    simp only [List.mem_cons, List.not_mem_nil, or_false] at hm
    exact Or.inr (xz_pick xz_c327 (by simp only [List.mem_cons, List.not_mem_nil, or_false]; omega))
  by_cases h328 : n < 343
  · have hm : n ∈ [328, 329, 330, 331, 332, 333, 334, 335, 336, 337, 338, 339, 340, 341, 342] := by
      have : 328 ≤ n := by omega
      simp only [List.mem_cons, List.not_mem_nil, or_false]; omega
    simp only [List.mem_cons, List.not_mem_nil, or_false] at hm
    exact Or.inr (xz_pick xz_c328 (by simp only [List.mem_cons, List.not_mem_nil, or_false]; omega))
  by_cases h343 : n < 352
  · have hm : n ∈ [343, 344, 345, 346, 347, 348, 349, 350, 351] := by
      have : 343 ≤ n := by omega
      simp only [List.mem_cons, List.not_mem_nil, or_false]; omega
    simp only [List.mem_cons, List.not_mem_nil, or_false] at hm
    exact Or.inr (xz_pick xz_c343 (by simp only [List.mem_cons, List.not_mem_nil, or_false]; omega))
  by_cases h352 : n < 353
  · have hm : n ∈ [352] := by
      have : 352 ≤ n := by omega
      simp only [List.mem_cons, List.not_mem_nil, or_false]; omega
    simp only [List.mem_cons, List.not_mem_nil, or_false] at hm
    exact Or.inr (xz_pick xz_c352 (by simp only [List.mem_cons, List.not_mem_nil, or_false]; omega))
  by_cases h353 : n < 362
  · have hm : n ∈ [353, 354, 355, 356, 357, 358, 359, 360, 361] := by
      have : 353 ≤ n := by omega
      simp only [List.mem_cons, List.not_mem_nil, or_false]; omega
    simp only [List.mem_cons, List.not_mem_nil, or_false] at hm
    exact Or.inr (xz_pick xz_c353 (by simp only [List.mem_cons, List.not_mem_nil, or_false]; omega))
  by_cases h362 : n < 383
  · have hm : n ∈ [362, 363, 364, 365, 366, 367, 368, 369, 370, 371, 372, 373, 374, 375, 376, 377, 378, 379, 380, 381, 382] := by
      have : 362 ≤ n := by omega
      simp only [List.mem_cons, List.not_mem_nil, or_false]; omega
    simp only [List.mem_cons, List.not_mem_nil, or_false] at hm
    exact Or.inr (xz_pick xz_c362 (by simp only [List.mem_cons, List.not_mem_nil, or_false]; omega))
  by_cases h383 : n < 384
  · have hm : n ∈ [383] := by
      have : 383 ≤ n := by omega
      simp only [List.mem_cons, List.not_mem_nil, or_false]; omega
    simp only [List.mem_cons, List.not_mem_nil, or_false] at hm
    exact Or.inr (xz_pick xz_c383 (by simp only [List.mem_cons, List.not_mem_nil, or_false]; omega))
  by_cases h384 : n < 390
  · have hm : n ∈ [384, 385, 386, 387, 388, 389] := by
      have : 384 ≤ n := by omega
      simp only [List.mem_cons, List.not_mem_nil, or_false]; omega
    simp only [List.mem_cons, List.not_mem_nil, or_false] at hm
    exact Or.inr (xz_pick xz_c384 (by simp only [List.mem_cons, List.not_mem_nil, or_false]; omega))
  by_cases h390 : n < 411
  · have hm : n ∈ [390, 391, 392, 393, 394, 395, 396, 397, 398, 399, 400, 401, 402, 403, 404, 405, 406, 407, 408, 409, 410] := by
      have : 390 ≤ n := by omega
      simp only [List.mem_cons, List.not_mem_nil, or_false]; omega
    simp only [List.mem_cons, List.not_mem_nil, or_false] at hm
    exact Or.inr (xz_pick xz_c390 (by simp only [List.mem_cons, List.not_mem_nil, or_false]; omega))
  by_cases h411 : n < 412
  · have hm : n ∈ [411] := by
      have : 411 ≤ n := by omega
      simp only [List.mem_cons, List.not_mem_nil, or_false]; omega
    simp only [List.mem_cons, List.not_mem_nil, or_false] at hm
    exact Or.inr (xz_pick xz_c411 (by simp only [List.mem_cons, List.not_mem_nil, or_false]; omega))
  by_cases h412 : n < 413
  · have hm : n ∈ [412] := by
      have : 412 ≤ n := by omega
      simp only [List.mem_cons, List.not_mem_nil, or_false]; omega
    simp only [List.mem_cons, List.not_mem_nil, or_false] at hm
    exact Or.inr (xz_pick xz_c412 (by simp only [List.mem_cons, List.not_mem_nil, or_false]; omega))
  by_cases h413 : n < 419
  · have hm : n ∈ [413, 414, 415, 416, 417, 418] := by
      have : 413 ≤ n := by omega
      simp only [List.mem_cons, List.not_mem_nil, or_false]; omega
    simp only [List.mem_cons, List.not_mem_nil, or_false] at hm
    rcases hm with rfl | rfl | rfl | rfl | rfl | rfl
    · exact Or.inr (xz_pick xz_c413 (by decide))
    · exact Or.inr (xz_pick xz_c413 (by decide))
    · exact Or.inr (xz_pick xz_c413 (by decide))
    · exact Or.inr (xz_pick xz_c413 (by decide))
    · exact Or.inr (xz_pick xz_c413 (by decide))
    · exact Or.inl (by decide)
  omega
