/-! all of them -/
theorem xz_pick {l : List Nat} (h : l.all xz_chk = true) {n : Nat} (hn : n ∈ l) : xz_chk n = true := List.all_eq_true.mp h n hn
theorem xz_hc : ∀ n, n < 422 → n ∈ xz_sp ∨ xz_chk n = true := by
  intro n hn
  by_cases h0 : n < 12
  · have hm : n ∈ [0, 1, 2, 3, 4, 5, 6, 7, 8, 9, 10, 11] := by
      have : 0 ≤ n := by omega
      simp only [List.mem_cons, List.not_mem_nil, or_false]; omega
    simp only [List.mem_cons, List.not_mem_nil, or_false] at hm
    exact Or.inr (xz_pick xz_c0 (by simp only [List.mem_cons, List.not_mem_nil, or_false]; omega))
  by_cases h12 : n < 27
  · have hm : n ∈ [12, 13, 14, 15, 16, 17, 18, 19, 20, 21, 22, 23, 24, 25, 26] := by
      have : 12 ≤ n := by omega
      simp only [List.mem_cons, List.not_mem_nil, or_false]; omega
    simp only [List.mem_cons, List.not_mem_nil, or_false] at hm
    exact Or.inr (xz_pick xz_c12 (by simp only [List.mem_cons, List.not_mem_nil, or_false]; omega))
  by_cases h27 : n < 48
  · have hm : n ∈ [27, 28, 29, 30, 31, 32, 33, 34, 35, 36, 37, 38, 39, 40, 41, 42, 43, 44, 45, 46, 47] := by
      have : 27 ≤ n := by omega
      simp only [List.mem_cons, List.not_mem_nil, or_false]; omega
    simp only [List.mem_cons, List.not_mem_nil, or_false] at hm
    rcases hm with rfl | rfl | rfl | rfl | rfl | rfl | rfl | rfl | rfl | rfl | rfl | rfl | rfl | rfl | rfl | rfl | rfl | rfl | rfl | rfl | rfl
    · exact Or.inr (xz_pick xz_c27 (by decide))
    · exact Or.inr (xz_pick xz_c27 (by decide))
    · exact Or.inr (xz_pick xz_c27 (by decide))
    · exact Or.inr (xz_pick xz_c27 (by decide))
    · exact Or.inr (xz_pick xz_c27 (by decide))
    · exact Or.inr (xz_pick xz_c27 (by decide))
    · exact Or.inr (xz_pick xz_c27 (by decide))
    · exact Or.inr (xz_pick xz_c27 (by decide))
    · exact Or.inr (xz_pick xz_c27 (by decide))
    · exact Or.inr (xz_pick xz_c27 (by decide))
    · exact Or.inr (xz_pick xz_c27 (by decide))
    · exact Or.inr (xz_pick xz_c27 (by decide))
    · exact Or.inr (xz_pick xz_c27 (by decide))
    · exact Or.inr (xz_pick xz_c27 (by decide))
    · exact Or.inr (xz_pick xz_c27 (by decide))
    · exact Or.inr (xz_pick xz_c27 (by decide))
    · exact Or.inr (xz_pick xz_c27 (by decide))
    · exact Or.inr (xz_pick xz_c27 (by decide))
    · exact Or.inr (xz_pick xz_c27 (by decide))
    · exact Or.inr (xz_pick xz_c27 (by decide))
    · exact Or.inl (by decide)
  by_cases h48 : n < 49
  · have hm : n ∈ [48] := by
      have : 48 ≤ n := by omega
      simp only [List.mem_cons, List.not_mem_nil, or_false]; omega
    simp only [List.mem_cons, List.not_mem_nil, or_false] at hm
    exact Or.inr (xz_pick xz_c48 (by simp only [List.mem_cons, List.not_mem_nil, or_false]; omega))
  by_cases h49 : n < 50
  · have hm : n ∈ [49] := by
      have : 49 ≤ n := by omega
      simp only [List.mem_cons, List.not_mem_nil, or_false]; omega
    simp only [List.mem_cons, List.not_mem_nil, or_false] at hm
    exact Or.inr (xz_pick xz_c49 (by simp only [List.mem_cons, List.not_mem_nil, or_false]; omega))
  by_cases h50 : n < 58
  · have hm : n ∈ [50, 51, 52, 53, 54, 55, 56, 57] := by
      have : 50 ≤ n := by omega
      simp only [List.mem_cons, List.not_mem_nil, or_false]; omega
    simp only [List.mem_cons, List.not_mem_nil, or_false] at hm
    exact Or.inr (xz_pick xz_c50 (by simp only [List.mem_cons, List.not_mem_nil, or_false]; omega))
  by_cases h58 : n < 74
  · have hm : n ∈ [58, 59, 60, 61, 62, 63, 64, 65, 66, 67, 68, 69, 70, 71, 72, 73] := by
      have : 58 ≤ n := by omega
      simp only [List.mem_cons, List.not_mem_nil, or_false]; omega
    simp only [List.mem_cons, List.not_mem_nil, or_false] at hm
    exact Or.inr (xz_pick xz_c58 (by simp only [List.mem_cons, List.not_mem_nil, or_false]; omega))
  by_cases h74 : n < 76
  · have hm : n ∈ [74, 75] := by
      have : 74 ≤ n := by omega
      simp only [List.mem_cons, List.not_mem_nil, or_false]; omega
    simp only [List.mem_cons, List.not_mem_nil, or_false] at hm
    exact Or.inr (xz_pick xz_c74 (by simp only [List.mem_cons, List.not_mem_nil, or_false]; omega))
  by_cases h76 : n < 97
  · have hm : n ∈ [76, 77, 78, 79, 80, 81, 82, 83, 84, 85, 86, 87, 88, 89, 90, 91, 92, 93, 94, 95, 96] := by
      have : 76 ≤ n := by omega
      simp only [List.mem_cons, List.not_mem_nil, or_false]; omega
    simp only [List.mem_cons, List.not_mem_nil, or_false] at hm
    exact Or.inr (xz_pick xz_c76 (by simp only [List.mem_cons, List.not_mem_nil, or_false]; omega))
  by_cases h97 : n < 119
  · have hm : n ∈ [97, 98, 99, 100, 101, 102, 103, 104, 105, 106, 107, 108, 109, 110, 111, 112, 113, 114, 115, 116, 117, 118] := by
      have : 97 ≤ n := by omega
      simp only [List.mem_cons, List.not_mem_nil, or_false]; omega
    simp only [List.mem_cons, List.not_mem_nil, or_false] at hm
    exact Or.inr (xz_pick xz_c97 (by simp only [List.mem_cons, List.not_mem_nil, or_false]; omega))
  by_cases h119 : n < 136
  · have hm : n ∈ [119, 120, 121, 122, 123, 124, 125, 126, 127, 128, 129, 130, 131, 132, 133, 134, 135] := by
      have : 119 ≤ n := by omega
      simp only [List.mem_cons, List.not_mem_nil, or_false]; omega
    simp only [List.mem_cons, List.not_mem_nil, or_false] at hm
    exact Or.inr (xz_pick xz_c119 (by simp only [List.mem_cons, List.not_mem_nil, or_false]; omega))
  by_cases h136 : n < 148
  · have hm : n ∈ [136, 137, 138, 139, 140, 141, 142, 143, 144, 145, 146, 147] := by
      have : 136 ≤ n := by omega
      simp only [List.mem_cons, List.not_mem_nil, or_false]; omega
    simp only [List.mem_cons, List.not_mem_nil, or_false] at hm
    exact Or.inr (xz_pick xz_c136 (by simp only [List.mem_cons, List.not_mem_nil, or_false]; omega))
  by_cases h148 : n < 152
  · have hm : n ∈ [148, 149, 150, 151] := by
      have : 148 ≤ n := by omega
      simp only [List.mem_cons, List.not_mem_nil, or_false]; omega
    simp only [List.mem_cons, List.not_mem_nil, or_false] at hm
    exact Or.inr (xz_pick xz_c148 (by simp only [List.mem_cons, List.not_mem_nil, or_false]; omega))
  by_cases h152 : n < 156
  · have hm : n ∈ [152, 153, 154, 155] := by
      have : 152 ≤ n := by omega
      simp only [List.mem_cons, List.not_mem_nil, or_false]; omega
    simp only [List.mem_cons, List.not_mem_nil, or_false] at hm
    exact Or.inr (xz_pick xz_c152 (by simp only [List.mem_cons, List.not_mem_nil, or_false]; omega))
  by_cases h156 : n < 159
  · have hm : n ∈ [156, 157, 158] := by
      have : 156 ≤ n := by omega
      simp only [List.mem_cons, List.not_mem_nil, or_false]; omega
    simp only [List.mem_cons, List.not_mem_nil, or_false] at hm
    exact Or.inr (xz_pick xz_c156 (by simp only [List.mem_cons, List.not_mem_nil, or_false]; omega))
  by_cases h159 : n < 163
  · have hm : n ∈ [159, 160, 161, 162] := by
      have : 159 ≤ n := by omega
      simp only [List.mem_cons, List.not_mem_nil, or_false]; omega
    simp only [List.mem_cons, List.not_mem_nil, or_false] at hm
    exact Or.inr (xz_pick xz_c159 (by simp only [List.mem_cons, List.not_mem_nil, or_false]; omega))
  by_cases h163 : n < 167
  · have hm : n ∈ [163, 164, 165, 166] := by
      have : 163 ≤ n := by omega
      simp only [List.mem_cons, List.not_mem_nil, or_false]; omega
    simp only [List.mem_cons, List.not_mem_nil, or_false] at hm
    exact Or.inr (xz_pick xz_c163 (by simp only [List.mem_cons, List.not_mem_nil, or_false]; omega))
  by_cases h167 : n < 171
  · have hm : n ∈ [167, 168, 169, 170] := by
      have : 167 ≤ n := by omega
      simp only [List.mem_cons, List.not_mem_nil, or_false]; omega
    simp only [List.mem_cons, List.not_mem_nil, or_false] at hm
    exact Or.inr (xz_pick xz_c167 (by simp only [List.mem_cons, List.not_mem_nil, or_false]; omega))
  by_cases h171 : n < 175
  · have hm : n ∈ [171, 172, 173, 174] := by
      have : 171 ≤ n := by omega
      simp only [List.mem_cons, List.not_mem_nil, or_false]; omega
    simp only [List.mem_cons, List.not_mem_nil, or_false] at hm
    exact Or.inr (xz_pick xz_c171 (by simp only [List.mem_cons, List.not_mem_nil, or_false]; omega))
  by_cases h175 : n < 179
  · have hm : n ∈ [175, 176, 177, 178] := by
      have : 175 ≤ n := by omega
      simp only [List.mem_cons, List.not_mem_nil, or_false]; omega
    simp only [List.mem_cons, List.not_mem_nil, or_false] at hm
    exact Or.inr (xz_pick xz_c175 (by simp only [List.mem_cons, List.not_mem_nil, or_false]; omega))
  by_cases h179 : n < 183
  · have hm : n ∈ [179, 180, 181, 182] := by
      have : 179 ≤ n := by omega
      simp only [List.mem_cons, List.not_mem_nil, or_false]; omega
    simp only [List.mem_cons, List.not_mem_nil, or_false] at hm
    exact Or.inr (xz_pick xz_c179 (by simp only [List.mem_cons, List.not_mem_nil, or_false]; omega))
  by_cases h183 : n < 187
  · have hm : n ∈ [183, 184, 185, 186] := by
      have : 183 ≤ n := by omega
      simp only [List.mem_cons, List.not_mem_nil, or_false]; omega
    simp only [List.mem_cons, List.not_mem_nil, or_false] at hm
    exact Or.inr (xz_pick xz_c183 (by simp only [List.mem_cons, List.not_mem_nil, or_false]; omega))
  by_cases h187 : n < 188
  · have hm : n ∈ [187] := by
      have : 187 ≤ n := by omega
      simp only [List.mem_cons, List.not_mem_nil, or_false]; omega
    simp only [List.mem_cons, List.not_mem_nil, or_false] at hm
    exact Or.inr (xz_pick xz_c187 (by simp only [List.mem_cons, List.not_mem_nil, or_false]; omega))
  by_cases h188 : n < 192
  · have hm : n ∈ [188, 189, 190, 191] := by
      have : 188 ≤ n := by omega
      simp only [List.mem_cons, List.not_mem_nil, or_false]; omega
    simp only [List.mem_cons, List.not_mem_nil, or_false] at hm
    exact Or.inr (xz_pick xz_c188 (by simp only [List.mem_cons, List.not_mem_nil, or_false]; omega))
  by_cases h192 : n < 196
  · have hm : n ∈ [192, 193, 194, 195] := by
      have : 192 ≤ n := by omega
      simp only [List.mem_cons, List.not_mem_nil, or_false]; omega
    simp only [List.mem_cons, List.not_mem_nil, or_false] at hm
    exact Or.inr (xz_pick xz_c192 (by simp only [List.mem_cons, List.not_mem_nil, or_false]; omega))
  by_cases h196 : n < 200
  · have hm : n ∈ [196, 197, 198, 199] := by
      have : 196 ≤ n := by omega
      simp only [List.mem_cons, List.not_mem_nil, or_false]; omega
    simp only [List.mem_cons, List.not_mem_nil, or_false] at hm
    exact Or.inr (xz_pick xz_c196 (by simp only [List.mem_cons, List.not_mem_nil, or_false]; omega))
  by_cases h200 : n < 204
  · have hm : n ∈ [200, 201, 202, 203] := by
      have : 200 ≤ n := by omega
      simp only [List.mem_cons, List.not_mem_nil, or_false]; omega
    simp only [List.mem_cons, List.not_mem_nil, or_false] at hm
    exact Or.inr (xz_pick xz_c200 (by simp only [List.mem_cons, List.not_mem_nil, or_false]; omega))
  by_cases h204 : n < 208
  · have hm : n ∈ [204, 205, 206, 207] := by
      have : 204 ≤ n := by omega
      simp only [List.mem_cons, List.not_mem_nil, or_false]; omega
    simp only [List.mem_cons, List.not_mem_nil, or_false] at hm
    exact Or.inr (xz_pick xz_c204 (by simp only [List.mem_cons, List.not_mem_nil, or_false]; omega))
  by_cases h208 : n < 212
  · have hm : n ∈ [208, 209, 210, 211] := by
      have : 208 ≤ n := by omega
      simp only [List.mem_cons, List.not_mem_nil, or_false]; omega
    simp only [List.mem_cons, List.not_mem_nil, or_false] at hm
    exact Or.inr (xz_pick xz_c208 (by simp only [List.mem_cons, List.not_mem_nil, or_false]; omega))
  by_cases h212 : n < 216
  · have hm : n ∈ [212, 213, 214, 215] := by
      have : 212 ≤ n := by omega
      simp only [List.mem_cons, List.not_mem_nil, or_false]; omega
    simp only [List.mem_cons, List.not_mem_nil, or_false] at hm
    exact Or.inr (xz_pick xz_c212 (by simp only [List.mem_cons, List.not_mem_nil, or_false]; omega))
  by_cases h216 : n < 217
  · have hm : n ∈ [216] := by
      have : 216 ≤ n := by omega
      simp only [List.mem_cons, List.not_mem_nil, or_false]; omega
    simp only [List.mem_cons, List.not_mem_nil, or_false] at hm
    exact Or.inr (xz_pick xz_c216 (by simp only [List.mem_cons, List.not_mem_nil, or_false]; omega))
  by_cases h217 : n < 221
  · have hm : n ∈ [217, 218, 219, 220] := by
      have : 217 ≤ n := by omega
      simp only [List.mem_cons, List.not_mem_nil, or_false]; omega
    simp only [List.mem_cons, List.not_mem_nil, or_false] at hm
    exact Or.inr (xz_pick xz_c217 (by simp only [List.mem_cons, List.not_mem_nil, or_false]; omega))
  by_cases h221 : n < 225
  · have hm : n ∈ [221, 222, 223, 224] := by
      have : 221 ≤ n := by omega
      simp only [List.mem_cons, List.not_mem_nil, or_false]; omega
    simp only [List.mem_cons, List.not_mem_nil, or_false] at hm
    exact Or.inr (xz_pick xz_c221 (by simp only [List.mem_cons, List.not_mem_nil, or_false]; omega))
  by_cases h225 : n < 229
  · have hm : n ∈ [225, 226, 227, 228] := by
      have : 225 ≤ n := by omega
      simp only [List.mem_cons, List.not_mem_nil, or_false]; omega
    simp only [List.mem_cons, List.not_mem_nil, or_false] at hm
    exact Or.inr (xz_pick xz_c225 (by simp only [List.mem_cons, List.not_mem_nil, or_false]; omega))
  by_cases h229 : n < 233
  · have hm : n ∈ [229, 230, 231, 232] := by
      have : 229 ≤ n := by omega
      simp only [List.mem_cons, List.not_mem_nil, or_false]; omega
    simp only [List.mem_cons, List.not_mem_nil, or_false] at hm
    exact Or.inr (xz_pick xz_c229 (by simp only [List.mem_cons, List.not_mem_nil, or_false]; omega))
  by_cases h233 : n < 237
  · have hm : n ∈ [233, 234, 235, 236] := by
      have : 233 ≤ n := by omega
      simp only [List.mem_cons, List.not_mem_nil, or_false]; omega
    simp only [List.mem_cons, List.not_mem_nil, or_false] at hm
    exact Or.inr (xz_pick xz_c233 (by simp only [List.mem_cons, List.not_mem_nil, or_false]; omega))
  by_cases h237 : n < 241
  · have hm : n ∈ [237, 238, 239, 240] := by
      have : 237 ≤ n := by omega
      simp only [List.mem_cons, List.not_mem_nil, or_false]; omega
    simp only [List.mem_cons, List.not_mem_nil, or_false] at hm
    exact Or.inr (xz_pick xz_c237 (by simp only [List.mem_cons, List.not_mem_nil, or_false]; omega))
  by_cases h241 : n < 245
  · have hm : n ∈ [241, 242, 243, 244] := by
      have : 241 ≤ n := by omega
      simp only [List.mem_cons, List.not_mem_nil, or_false]; omega
    simp only [List.mem_cons, List.not_mem_nil, or_false] at hm
    exact Or.inr (xz_pick xz_c241 (by simp only [List.mem_cons, List.not_mem_nil, or_false]; omega))
  by_cases h245 : n < 246
  · have hm : n ∈ [245] := by
      have : 245 ≤ n := by omega
      simp only [List.mem_cons, List.not_mem_nil, or_false]; omega
    simp only [List.mem_cons, List.not_mem_nil, or_false] at hm
    exact Or.inr (xz_pick xz_c245 (by simp only [List.mem_cons, List.not_mem_nil, or_false]; omega))
  by_cases h246 : n < 250
  · have hm : n ∈ [246, 247, 248, 249] := by
      have : 246 ≤ n := by omega
      simp only [List.mem_cons, List.not_mem_nil, or_false]; omega
    simp only [List.mem_cons, List.not_mem_nil, or_false] at hm
    exact Or.inr (xz_pick xz_c246 (by simp only [List.mem_cons, List.not_mem_nil, or_false]; omega))
  by_cases h250 : n < 254
  · have hm : n ∈ [250, 251, 252, 253] := by
      have : 250 ≤ n := by omega
      simp only [List.mem_cons, List.not_mem_nil, or_false]; omega
    simp only [List.mem_cons, List.not_mem_nil, or_false] at hm
    exact Or.inr (xz_pick xz_c250 (by simp only [List.mem_cons, List.not_mem_nil, or_false]; omega))
  by_cases h254 : n < 258
  · have hm : n ∈ [254, 255, 256, 257] := by
      have : 254 ≤ n := by omega
      simp only [List.mem_cons, List.not_mem_nil, or_false]; omega
    simp only [List.mem_cons, List.not_mem_nil, or_false] at hm
    exact Or.inr (xz_pick xz_c254 (by simp only [List.mem_cons, List.not_mem_nil, or_false]; omega))
  by_cases h258 : n < 262
  · have hm : n ∈ [258, 259, 260, 261] := by
      have : 258 ≤ n := by omega
      simp only [List.mem_cons, List.not_mem_nil, or_false]; omega
    simp only [List.mem_cons, List.not_mem_nil, or_false] at hm
    exact Or.inr (xz_pick xz_c258 (by simp only [List.mem_cons, List.not_mem_nil, or_false]; omega))
  by_cases h262 : n < 266
  · have hm : n ∈ [262, 263, 264, 265] := by
      have : 262 ≤ n := by omega
      simp only [List.mem_cons, List.not_mem_nil, or_false]; omega
    simp only [List.mem_cons, List.not_mem_nil, or_false] at hm
    exact Or.inr (xz_pick xz_c262 (by simp only [List.mem_cons, List.not_mem_nil, or_false]; omega))
  by_cases h266 : n < 270
  · have hm : n ∈ [266, 267, 268, 269] := by
      have : 266 ≤ n := by omega
      simp only [List.mem_cons, List.not_mem_nil, or_false]; omega
    simp only [List.mem_cons, List.not_mem_nil, or_false] at hm
    exact Or.inr (xz_pick xz_c266 (by simp only [List.mem_cons, List.not_mem_nil, or_false]; omega))
  by_cases h270 : n < 274
  · have hm : n ∈ [270, 271, 272, 273] := by
      have : 270 ≤ n := by omega
      simp only [List.mem_cons, List.not_mem_nil, or_false]; omega
    simp only [List.mem_cons, List.not_mem_nil, or_false] at hm
    exact Or.inr (xz_pick xz_c270 (by simp only [List.mem_cons, List.not_mem_nil, or_false]; omega))
  by_cases h274 : n < 275
  · have hm : n ∈ [274] := by
      have : 274 ≤ n := by omega
      simp only [List.mem_cons, List.not_mem_nil, or_false]; omega
    simp only [List.mem_cons, List.not_mem_nil, or_false] at hm
    exact Or.inr (xz_pick xz_c274 (by simp only [List.mem_cons, List.not_mem_nil, or_false]; omega))
  by_cases h275 : n < 281
  · have hm : n ∈ [275, 276, 277, 278, 279, 280] := by
      have : 275 ≤ n := by omega
      simp only [List.mem_cons, List.not_mem_nil, or_false]; omega
    simp only [List.mem_cons, List.not_mem_nil, or_false] at hm
    exact Or.inr (xz_pick xz_c275 (by simp only [List.mem_cons, List.not_mem_nil, or_false]; omega))
  by_cases h281 : n < 284
  · have hm : n ∈ [281, 282, 283] := by
      have : 281 ≤ n := by omega
      simp only [List.mem_cons, List.not_mem_nil, or_false]; omega
    simp only [List.mem_cons, List.not_mem_nil, or_false] at hm
    exact Or.inr (xz_pick xz_c281 (by simp only [List.mem_cons, List.not_mem_nil, or_false]; omega))
  by_cases h284 : n < 285
  · have hm : n ∈ [284] := by
      have : 284 ≤ n := by omega
      simp only [List.mem_cons, List.not_mem_nil, or_false]; omega
    simp only [List.mem_cons, List.not_mem_nil, or_false] at hm
    exact Or.inr (xz_pick xz_c284 (by simp only [List.mem_cons, List.not_mem_nil, or_false]; omega))
  by_cases h285 : n < 294
  · have hm : n ∈ [285, 286, 287, 288, 289, 290, 291, 292, 293] := by
      have : 285 ≤ n := by omega
      simp only [List.mem_cons, List.not_mem_nil, or_false]; omega
    simp only [List.mem_cons, List.not_mem_nil, or_false] at hm
    exact Or.inr (xz_pick xz_c285 (by simp only [List.mem_cons, List.not_mem_nil, or_false]; omega))
  by_cases h294 : n < 297
  · have hm : n ∈ [294, 295, 296] := by
      have : 294 ≤ n := by omega
      simp only [List.mem_cons, List.not_mem_nil, or_false]; omega
    simp only [List.mem_cons, List.not_mem_nil, or_false] at hm
    exact Or.inr (xz_pick xz_c294 (by simp only [List.mem_cons, List.not_mem_nil, or_false]; omega))
  by_cases h297 : n < 298
  · have hm : n ∈ [297] := by
      have : 297 ≤ n := by omega
      simp only [List.mem_cons, List.not_mem_nil, or_false]; omega
    simp only [List.mem_cons, List.not_mem_nil, or_false] at hm
    exact Or.inr (xz_pick xz_c297 (by simp only [List.mem_cons, List.not_mem_nil, or_false]; omega))
  by_cases h298 : n < 299
  · have hm : n ∈ [298] := by
      have : 298 ≤ n := by omega
      simp only [List.mem_cons, List.not_mem_nil, or_false]; omega
    simp only [List.mem_cons, List.not_mem_nil, or_false] at hm
    exact Or.inr (xz_pick xz_c298 (by simp only [List.mem_cons, List.not_mem_nil, or_false]; omega))
  by_cases h299 : n < 313
  · have hm : n ∈ [299, 300, 301, 302, 303, 304, 305, 306, 307, 308, 309, 310, 311, 312] := by
      have : 299 ≤ n := by omega
      simp only [List.mem_cons, List.not_mem_nil, or_false]; omega
    simp only [List.mem_cons, List.not_mem_nil, or_false] at hm
    rcases hm with rfl | rfl | rfl | rfl | rfl | rfl | rfl | rfl | rfl | rfl | rfl | rfl | rfl | rfl
    · exact Or.inr (xz_pick xz_c299 (by decide))
    · exact Or.inr (xz_pick xz_c299 (by decide))
    · exact Or.inr (xz_pick xz_c299 (by decide))
    · exact Or.inr (xz_pick xz_c299 (by decide))
    · exact Or.inr (xz_pick xz_c299 (by decide))
    · exact Or.inr (xz_pick xz_c299 (by decide))
    · exact Or.inr (xz_pick xz_c299 (by decide))
    · exact Or.inl (by decide)
    · exact Or.inr (xz_pick xz_c299 (by decide))
    · exact Or.inl (by decide)
    · exact Or.inr (xz_pick xz_c299 (by decide))
    · exact Or.inr (xz_pick xz_c299 (by decide))
    · exact Or.inr (xz_pick xz_c299 (by decide))
    · exact Or.inr (xz_pick xz_c299 (by decide))
  by_cases h313 : n < 314
  · have hm : n ∈ [313] := by
      have : 313 ≤ n := by omega
      simp only [List.mem_cons, List.not_mem_nil, or_false]; omega
    simp only [List.mem_cons, List.not_mem_nil, or_false] at hm
    exact Or.inr (xz_pick xz_c313 (by simp only [List.mem_cons, List.not_mem_nil, or_false]; omega))
  by_cases h314 : n < 315
  · have hm : n ∈ [314] := by
      have : 314 ≤ n := by omega
      simp only [List.mem_cons, List.not_mem_nil, or_false]; omega
    simp only [List.mem_cons, List.not_mem_nil, or_false] at hm
    exact Or.inr (xz_pick xz_c314 (by simp only [List.mem_cons, List.not_mem_nil, or_false]; omega))
  by_cases h315 : n < 319
  · have hm : n ∈ [315, 316, 317, 318] := by
      have : 315 ≤ n := by omega
      simp only [List.mem_cons, List.not_mem_nil, or_false]; omega
    simp only [List.mem_cons, List.not_mem_nil, or_false] at hm
    exact Or.inr (xz_pick xz_c315 (by simp only [List.mem_cons, List.not_mem_nil, or_false]; omega))
  by_cases h319 : n < 329
  · have hm : n ∈ [319, 320, 321, 322, 323, 324, 325, 326, 327, 328] := by
      have : 319 ≤ n := by omega
      simp only [List.mem_cons, List.not_mem_nil, or_false]; omega
    simp only [List.mem_cons, List.not_mem_nil, or_false] at hm
    exact Or.inr (xz_pick xz_c319 (by simp only [List.mem_cons, List.not_mem_nil, or_false]; omega))
  by_cases h329 : n < 330
  · have hm : n ∈ [329] := by
      have : 329 ≤ n := by omega
      simp only [List.mem_cons, List.not_mem_nil, or_false]; omega
    simp only [List.mem_cons, List.not_mem_nil, or_false] at hm
    exact Or.inr (xz_pick xz_c329 (by simp only [List.mem_cons, List.not_mem_nil, or_false]; omega))
  by_cases h330 : n < 331
  · have hm : n ∈ [330] := by
      have : 330 ≤ n := by omega
      simp only [List.mem_cons, List.not_mem_nil, or_false]; omega
    simp only [List.mem_cons, List.not_mem_nil, or_false] at hm
    exact Or.inr (xz_pick xz_c330 (by simp only [List.mem_cons, List.not_mem_nil, or_false]; omega))
  by_cases h331 : n < 346
  · have hm : n ∈ [331, 332, 333, 334, 335, 336, 337, 338, 339, 340, 341, 342, 343, 344, 345] := by
      have : 331 ≤ n := by omega
      simp only [List.mem_cons, List.not_mem_nil, or_false]; omega
    simp only [List.mem_cons, List.not_mem_nil, or_false] at hm
    exact Or.inr (xz_pick xz_c331 (by simp only [List.mem_cons, List.not_mem_nil, or_false]; omega))
  by_cases h346 : n < 355
  · have hm : n ∈ [346, 347, 348, 349, 350, 351, 352, 353, 354] := by
      have : 346 ≤ n := by omega
      simp only [List.mem_cons, List.not_mem_nil, or_false]; omega
    simp only [List.mem_cons, List.not_mem_nil, or_false] at hm
    exact Or.inr (xz_pick xz_c346 (by simp only [List.mem_cons, List.not_mem_nil, or_false]; omega))
  by_cases h355 : n < 356
  · have hm : n ∈ [355] := by
      have : 355 ≤ n := by omega
      simp only [List.mem_cons, List.not_mem_nil, or_false]; omega
    simp only [List.mem_cons, List.not_mem_nil, or_false] at hm
    exact Or.inr (xz_pick xz_c355 (by simp only [List.mem_cons, List.not_mem_nil, or_false]; omega))
  by_cases h356 : n < 365
  · have hm : n ∈ [356, 357, 358, 359, 360, 361, 362, 363, 364] := by
      have : 356 ≤ n := by omega
      simp only [List.mem_cons, List.not_mem_nil, or_false]; omega
    simp only [List.mem_cons, List.not_mem_nil, or_false] at hm
    exact Or.inr (xz_pick xz_c356 (by simp only [List.mem_cons, List.not_mem_nil, or_false]; omega))
  by_cases h365 : n < 386
  · have hm : n ∈ [365, 366, 367, 368, 369, 370, 371, 372, 373, 374, 375, 376, 377, 378, 379, 380, 381, 382, 383, 384, 385] := by
      have : 365 ≤ n := by omega
      simp only [List.mem_cons, List.not_mem_nil, or_false]; omega
    simp only [List.mem_cons, List.not_mem_nil, or_false] at hm
    exact Or.inr (xz_pick xz_c365 (by simp only [List.mem_cons, List.not_mem_nil, or_false]; omega))
  by_cases h386 : n < 387
  · have hm : n ∈ [386] := by
      have : 386 ≤ n := by omega
      simp only [List.mem_cons, List.not_mem_nil, or_false]; omega
    simp only [List.mem_cons, List.not_mem_nil, or_false] at hm
    exact Or.inr (xz_pick xz_c386 (by simp only [List.mem_cons, List.not_mem_nil, or_false]; omega))
  by_cases h387 : n < 393
  · have hm : n ∈ [387, 388, 389, 390, 391, 392] := by
      have : 387 ≤ n := by omega
      simp only [List.mem_cons, List.not_mem_nil, or_false]; omega
    simp only [List.mem_cons, List.not_mem_nil, or_false] at hm
    exact Or.inr (xz_pick xz_c387 (by simp only [List.mem_cons, List.not_mem_nil, or_false]; omega))
  by_cases h393 : n < 414
  · have hm : n ∈ [393, 394, 395, 396, 397, 398, 399, 400, 401, 402, 403, 404, 405, 406, 407, 408, 409, 410, 411, 412, 413] := by
      have : 393 ≤ n := by omega
      simp only [List.mem_cons, List.not_mem_nil, or_false]; omega
    simp only [List.mem_cons, List.not_mem_nil, or_false] at hm
    exact Or.inr (xz_pick xz_c393 (by simp only [List.mem_cons, List.not_mem_nil, or_false]; omega))
  by_cases h414 : n < 415
  · have hm : n ∈ [414] := by
      have : 414 ≤ n := by omega
      simp only [List.mem_cons, List.not_mem_nil, or_false]; omega
    simp only [List.mem_cons, List.not_mem_nil, or_false] at hm
    exact Or.inr (xz_pick xz_c414 (by simp only [List.mem_cons, List.not_mem_nil, or_false]; omega))
  by_cases h415 : n < 416
  · have hm : n ∈ [415] := by
      have : 415 ≤ n := by omega
      simp only [List.mem_cons, List.not_mem_nil, or_false]; omega
    simp only [List.mem_cons, List.not_mem_nil, or_false] at hm
    exact Or.inr (xz_pick xz_c415 (by simp only [List.mem_cons, List.not_mem_nil, or_false]; omega))
  by_cases h416 : n < 422
  · have hm : n ∈ [416, 417, 418, 419, 420, 421] := by
      have : 416 ≤ n := by omega
      simp only [List.mem_cons, List.not_mem_nil, or_false]; omega
    simp only [List.mem_cons, List.not_mem_nil, or_false] at hm
    rcases hm with rfl | rfl | rfl | rfl | rfl | rfl
    · exact Or.inr (xz_pick xz_c416 (by decide))
    · exact Or.inr (xz_pick xz_c416 (by decide))
    · exact Or.inr (xz_pick xz_c416 (by decide))
    · exact Or.inr (xz_pick xz_c416 (by decide))
    · exact Or.inr (xz_pick xz_c416 (by decide))
    · exact Or.inl (by decide)
  omega
