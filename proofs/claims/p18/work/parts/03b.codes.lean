theorem mco_0 : chk (fun j => .code (mY j) (mB j) (mX j) (mR j)) (fun j => (mp j).1) lw_tbl [0, 1, 2, 3, 4] = true := by decide +kernel
theorem mco_5 : chk (fun j => .code (mY j) (mB j) (mX j) (mR j)) (fun j => (mp j).1) lw_tbl [5, 6, 7, 8, 9] = true := by decide +kernel
theorem mco_10 : chk (fun j => .code (mY j) (mB j) (mX j) (mR j)) (fun j => (mp j).1) lw_tbl [10, 11, 12, 13, 14] = true := by decide +kernel
theorem mco_15 : chk (fun j => .code (mY j) (mB j) (mX j) (mR j)) (fun j => (mp j).1) lw_tbl [15, 16, 17, 18, 19] = true := by decide +kernel
theorem mco_20 : chk (fun j => .code (mY j) (mB j) (mX j) (mR j)) (fun j => (mp j).1) lw_tbl [20, 21, 22, 23, 24] = true := by decide +kernel
theorem mco_25 : chk (fun j => .code (mY j) (mB j) (mX j) (mR j)) (fun j => (mp j).1) lw_tbl [25, 26, 27, 28, 29] = true := by decide +kernel
theorem mco_30 : chk (fun j => .code (mY j) (mB j) (mX j) (mR j)) (fun j => (mp j).1) lw_tbl [30, 31, 32, 33, 34] = true := by decide +kernel
theorem mco_35 : chk (fun j => .code (mY j) (mB j) (mX j) (mR j)) (fun j => (mp j).1) lw_tbl [35, 36, 37, 38, 39] = true := by decide +kernel
theorem mco_40 : chk (fun j => .code (mY j) (mB j) (mX j) (mR j)) (fun j => (mp j).1) lw_tbl [40, 41, 42, 43, 44] = true := by decide +kernel
theorem mco_45 : chk (fun j => .code (mY j) (mB j) (mX j) (mR j)) (fun j => (mp j).1) lw_tbl [45, 46, 47, 48, 49] = true := by decide +kernel
theorem mco_50 : chk (fun j => .code (mY j) (mB j) (mX j) (mR j)) (fun j => (mp j).1) lw_tbl [50, 51, 52, 53, 54] = true := by decide +kernel
theorem mco_55 : chk (fun j => .code (mY j) (mB j) (mX j) (mR j)) (fun j => (mp j).1) lw_tbl [55, 56, 57, 58, 59] = true := by decide +kernel
theorem mco_60 : chk (fun j => .code (mY j) (mB j) (mX j) (mR j)) (fun j => (mp j).1) lw_tbl [60, 61, 62, 63, 64] = true := by decide +kernel
theorem mco_65 : chk (fun j => .code (mY j) (mB j) (mX j) (mR j)) (fun j => (mp j).1) lw_tbl [65, 66, 67, 68, 69] = true := by decide +kernel
theorem mco_70 : chk (fun j => .code (mY j) (mB j) (mX j) (mR j)) (fun j => (mp j).1) lw_tbl [70, 71, 72, 73, 74] = true := by decide +kernel
theorem mco_75 : chk (fun j => .code (mY j) (mB j) (mX j) (mR j)) (fun j => (mp j).1) lw_tbl [75, 76, 77, 78, 79] = true := by decide +kernel
theorem mco_80 : chk (fun j => .code (mY j) (mB j) (mX j) (mR j)) (fun j => (mp j).1) lw_tbl [80, 81, 82, 83, 84] = true := by decide +kernel
theorem mco_85 : chk (fun j => .code (mY j) (mB j) (mX j) (mR j)) (fun j => (mp j).1) lw_tbl [85, 86, 87, 88, 89] = true := by decide +kernel
theorem mco_90 : chk (fun j => .code (mY j) (mB j) (mX j) (mR j)) (fun j => (mp j).1) lw_tbl [90, 91, 92, 93, 94] = true := by decide +kernel
theorem mco_95 : chk (fun j => .code (mY j) (mB j) (mX j) (mR j)) (fun j => (mp j).1) lw_tbl [95, 96, 97, 98, 99] = true := by decide +kernel
theorem mco_100 : chk (fun j => .code (mY j) (mB j) (mX j) (mR j)) (fun j => (mp j).1) lw_tbl [100, 101, 102, 103, 104] = true := by decide +kernel
theorem mco_105 : chk (fun j => .code (mY j) (mB j) (mX j) (mR j)) (fun j => (mp j).1) lw_tbl [105, 106, 107, 108, 109] = true := by decide +kernel
theorem mco_110 : chk (fun j => .code (mY j) (mB j) (mX j) (mR j)) (fun j => (mp j).1) lw_tbl [110, 111, 112, 113, 114] = true := by decide +kernel
theorem mco_115 : chk (fun j => .code (mY j) (mB j) (mX j) (mR j)) (fun j => (mp j).1) lw_tbl [115, 116, 117, 118, 119] = true := by decide +kernel
theorem mco_120 : chk (fun j => .code (mY j) (mB j) (mX j) (mR j)) (fun j => (mp j).1) lw_tbl [120, 121, 122, 123, 124] = true := by decide +kernel
theorem mco_125 : chk (fun j => .code (mY j) (mB j) (mX j) (mR j)) (fun j => (mp j).1) lw_tbl [125, 126, 127, 128, 129] = true := by decide +kernel
theorem mco_130 : chk (fun j => .code (mY j) (mB j) (mX j) (mR j)) (fun j => (mp j).1) lw_tbl [130, 131, 132, 133, 134] = true := by decide +kernel
theorem mco_135 : chk (fun j => .code (mY j) (mB j) (mX j) (mR j)) (fun j => (mp j).1) lw_tbl [135, 136, 137, 138, 139] = true := by decide +kernel
theorem mco_140 : chk (fun j => .code (mY j) (mB j) (mX j) (mR j)) (fun j => (mp j).1) lw_tbl [140, 141, 142, 143, 144] = true := by decide +kernel
theorem mco_145 : chk (fun j => .code (mY j) (mB j) (mX j) (mR j)) (fun j => (mp j).1) lw_tbl [145, 146, 147, 148, 149] = true := by decide +kernel
theorem mco_150 : chk (fun j => .code (mY j) (mB j) (mX j) (mR j)) (fun j => (mp j).1) lw_tbl [150, 151, 152, 153, 154] = true := by decide +kernel
theorem mco_155 : chk (fun j => .code (mY j) (mB j) (mX j) (mR j)) (fun j => (mp j).1) lw_tbl [155, 156, 157, 158, 159] = true := by decide +kernel
theorem mco_160 : chk (fun j => .code (mY j) (mB j) (mX j) (mR j)) (fun j => (mp j).1) lw_tbl [160, 161, 162, 163, 164] = true := by decide +kernel
theorem mco_165 : chk (fun j => .code (mY j) (mB j) (mX j) (mR j)) (fun j => (mp j).1) lw_tbl [165, 166, 167, 168, 169] = true := by decide +kernel
theorem mco_170 : chk (fun j => .code (mY j) (mB j) (mX j) (mR j)) (fun j => (mp j).1) lw_tbl [170, 171, 172, 173, 174] = true := by decide +kernel
theorem mco_175 : chk (fun j => .code (mY j) (mB j) (mX j) (mR j)) (fun j => (mp j).1) lw_tbl [175, 176, 177, 178, 179] = true := by decide +kernel
theorem mco_180 : chk (fun j => .code (mY j) (mB j) (mX j) (mR j)) (fun j => (mp j).1) lw_tbl [180, 181, 182, 183, 184] = true := by decide +kernel
theorem mco_185 : chk (fun j => .code (mY j) (mB j) (mX j) (mR j)) (fun j => (mp j).1) lw_tbl [185, 186, 187, 188, 189] = true := by decide +kernel
theorem mco_190 : chk (fun j => .code (mY j) (mB j) (mX j) (mR j)) (fun j => (mp j).1) lw_tbl [190, 191, 192, 193, 194] = true := by decide +kernel
theorem mco_195 : chk (fun j => .code (mY j) (mB j) (mX j) (mR j)) (fun j => (mp j).1) lw_tbl [195, 196, 197, 198, 199] = true := by decide +kernel
theorem mco_200 : chk (fun j => .code (mY j) (mB j) (mX j) (mR j)) (fun j => (mp j).1) lw_tbl [200, 201, 202, 203, 204] = true := by decide +kernel
theorem mco_205 : chk (fun j => .code (mY j) (mB j) (mX j) (mR j)) (fun j => (mp j).1) lw_tbl [205, 206, 207, 208, 209] = true := by decide +kernel
theorem mco_210 : chk (fun j => .code (mY j) (mB j) (mX j) (mR j)) (fun j => (mp j).1) lw_tbl [210, 211, 212, 213, 214] = true := by decide +kernel
theorem mco_215 : chk (fun j => .code (mY j) (mB j) (mX j) (mR j)) (fun j => (mp j).1) lw_tbl [215, 216, 217, 218, 219] = true := by decide +kernel
theorem mco_220 : chk (fun j => .code (mY j) (mB j) (mX j) (mR j)) (fun j => (mp j).1) lw_tbl [220, 221, 222, 223, 224] = true := by decide +kernel
theorem mco_225 : chk (fun j => .code (mY j) (mB j) (mX j) (mR j)) (fun j => (mp j).1) lw_tbl [225, 226, 227, 228, 229] = true := by decide +kernel
theorem mco_230 : chk (fun j => .code (mY j) (mB j) (mX j) (mR j)) (fun j => (mp j).1) lw_tbl [230, 231, 232, 233, 234] = true := by decide +kernel
theorem mco_235 : chk (fun j => .code (mY j) (mB j) (mX j) (mR j)) (fun j => (mp j).1) lw_tbl [235, 236, 237, 238, 239] = true := by decide +kernel
theorem mco_240 : chk (fun j => .code (mY j) (mB j) (mX j) (mR j)) (fun j => (mp j).1) lw_tbl [240, 241, 242, 243, 244] = true := by decide +kernel
theorem mco_245 : chk (fun j => .code (mY j) (mB j) (mX j) (mR j)) (fun j => (mp j).1) lw_tbl [245, 246, 247, 248, 249] = true := by decide +kernel
theorem mco_250 : chk (fun j => .code (mY j) (mB j) (mX j) (mR j)) (fun j => (mp j).1) lw_tbl [250, 251, 252, 253, 254] = true := by decide +kernel
theorem mco_255 : chk (fun j => .code (mY j) (mB j) (mX j) (mR j)) (fun j => (mp j).1) lw_tbl [255, 256, 257, 258, 259] = true := by decide +kernel
theorem mco_260 : chk (fun j => .code (mY j) (mB j) (mX j) (mR j)) (fun j => (mp j).1) lw_tbl [260, 261, 262, 263, 264] = true := by decide +kernel
theorem mco_265 : chk (fun j => .code (mY j) (mB j) (mX j) (mR j)) (fun j => (mp j).1) lw_tbl [265, 266, 267, 268, 269] = true := by decide +kernel
theorem mco_270 : chk (fun j => .code (mY j) (mB j) (mX j) (mR j)) (fun j => (mp j).1) lw_tbl [270, 271, 272, 273, 274] = true := by decide +kernel
theorem mco_275 : chk (fun j => .code (mY j) (mB j) (mX j) (mR j)) (fun j => (mp j).1) lw_tbl [275, 276, 277, 278, 279] = true := by decide +kernel
theorem mco_280 : chk (fun j => .code (mY j) (mB j) (mX j) (mR j)) (fun j => (mp j).1) lw_tbl [280, 281, 282, 283, 284] = true := by decide +kernel
theorem mco_285 : chk (fun j => .code (mY j) (mB j) (mX j) (mR j)) (fun j => (mp j).1) lw_tbl [285, 286, 287, 288, 289] = true := by decide +kernel
theorem mco_290 : chk (fun j => .code (mY j) (mB j) (mX j) (mR j)) (fun j => (mp j).1) lw_tbl [290, 291, 292, 293, 294] = true := by decide +kernel
theorem mco_295 : chk (fun j => .code (mY j) (mB j) (mX j) (mR j)) (fun j => (mp j).1) lw_tbl [295, 296, 297, 298, 299] = true := by decide +kernel
theorem mco_300 : chk (fun j => .code (mY j) (mB j) (mX j) (mR j)) (fun j => (mp j).1) lw_tbl [300, 301, 302, 303, 304] = true := by decide +kernel
theorem mco_305 : chk (fun j => .code (mY j) (mB j) (mX j) (mR j)) (fun j => (mp j).1) lw_tbl [305, 306, 307, 308, 309] = true := by decide +kernel
theorem mco_310 : chk (fun j => .code (mY j) (mB j) (mX j) (mR j)) (fun j => (mp j).1) lw_tbl [310, 311, 312, 313, 314] = true := by decide +kernel
theorem mco_315 : chk (fun j => .code (mY j) (mB j) (mX j) (mR j)) (fun j => (mp j).1) lw_tbl [315, 316, 317, 318, 319] = true := by decide +kernel
theorem mco_320 : chk (fun j => .code (mY j) (mB j) (mX j) (mR j)) (fun j => (mp j).1) lw_tbl [320, 321, 322, 323, 324] = true := by decide +kernel
theorem mco_in : ∀ j, j < 325 → Cond.code (mY j) (mB j) (mX j) (mR j) ∈ lw_tbl := by
  intro j hj
  have h : j ∈ ([0, 1, 2, 3, 4] : List Nat) ++ [5, 6, 7, 8, 9] ++ [10, 11, 12, 13, 14] ++ [15, 16, 17, 18, 19] ++ [20, 21, 22, 23, 24] ++ [25, 26, 27, 28, 29] ++ [30, 31, 32, 33, 34] ++ [35, 36, 37, 38, 39] ++ [40, 41, 42, 43, 44] ++ [45, 46, 47, 48, 49] ++ [50, 51, 52, 53, 54] ++ [55, 56, 57, 58, 59] ++ [60, 61, 62, 63, 64] ++ [65, 66, 67, 68, 69] ++ [70, 71, 72, 73, 74] ++ [75, 76, 77, 78, 79] ++ [80, 81, 82, 83, 84] ++ [85, 86, 87, 88, 89] ++ [90, 91, 92, 93, 94] ++ [95, 96, 97, 98, 99] ++ [100, 101, 102, 103, 104] ++ [105, 106, 107, 108, 109] ++ [110, 111, 112, 113, 114] ++ [115, 116, 117, 118, 119] ++ [120, 121, 122, 123, 124] ++ [125, 126, 127, 128, 129] ++ [130, 131, 132, 133, 134] ++ [135, 136, 137, 138, 139] ++ [140, 141, 142, 143, 144] ++ [145, 146, 147, 148, 149] ++ [150, 151, 152, 153, 154] ++ [155, 156, 157, 158, 159] ++ [160, 161, 162, 163, 164] ++ [165, 166, 167, 168, 169] ++ [170, 171, 172, 173, 174] ++ [175, 176, 177, 178, 179] ++ [180, 181, 182, 183, 184] ++ [185, 186, 187, 188, 189] ++ [190, 191, 192, 193, 194] ++ [195, 196, 197, 198, 199] ++ [200, 201, 202, 203, 204] ++ [205, 206, 207, 208, 209] ++ [210, 211, 212, 213, 214] ++ [215, 216, 217, 218, 219] ++ [220, 221, 222, 223, 224] ++ [225, 226, 227, 228, 229] ++ [230, 231, 232, 233, 234] ++ [235, 236, 237, 238, 239] ++ [240, 241, 242, 243, 244] ++ [245, 246, 247, 248, 249] ++ [250, 251, 252, 253, 254] ++ [255, 256, 257, 258, 259] ++ [260, 261, 262, 263, 264] ++ [265, 266, 267, 268, 269] ++ [270, 271, 272, 273, 274] ++ [275, 276, 277, 278, 279] ++ [280, 281, 282, 283, 284] ++ [285, 286, 287, 288, 289] ++ [290, 291, 292, 293, 294] ++ [295, 296, 297, 298, 299] ++ [300, 301, 302, 303, 304] ++ [305, 306, 307, 308, 309] ++ [310, 311, 312, 313, 314] ++ [315, 316, 317, 318, 319] ++ [320, 321, 322, 323, 324] := by
    have : ∀ j, j < 325 → j ∈ ([0, 1, 2, 3, 4] : List Nat) ++ [5, 6, 7, 8, 9] ++ [10, 11, 12, 13, 14] ++ [15, 16, 17, 18, 19] ++ [20, 21, 22, 23, 24] ++ [25, 26, 27, 28, 29] ++ [30, 31, 32, 33, 34] ++ [35, 36, 37, 38, 39] ++ [40, 41, 42, 43, 44] ++ [45, 46, 47, 48, 49] ++ [50, 51, 52, 53, 54] ++ [55, 56, 57, 58, 59] ++ [60, 61, 62, 63, 64] ++ [65, 66, 67, 68, 69] ++ [70, 71, 72, 73, 74] ++ [75, 76, 77, 78, 79] ++ [80, 81, 82, 83, 84] ++ [85, 86, 87, 88, 89] ++ [90, 91, 92, 93, 94] ++ [95, 96, 97, 98, 99] ++ [100, 101, 102, 103, 104] ++ [105, 106, 107, 108, 109] ++ [110, 111, 112, 113, 114] ++ [115, 116, 117, 118, 119] ++ [120, 121, 122, 123, 124] ++ [125, 126, 127, 128, 129] ++ [130, 131, 132, 133, 134] ++ [135, 136, 137, 138, 139] ++ [140, 141, 142, 143, 144] ++ [145, 146, 147, 148, 149] ++ [150, 151, 152, 153, 154] ++ [155, 156, 157, 158, 159] ++ [160, 161, 162, 163, 164] ++ [165, 166, 167, 168, 169] ++ [170, 171, 172, 173, 174] ++ [175, 176, 177, 178, 179] ++ [180, 181, 182, 183, 184] ++ [185, 186, 187, 188, 189] ++ [190, 191, 192, 193, 194] ++ [195, 196, 197, 198, 199] ++ [200, 201, 202, 203, 204] ++ [205, 206, 207, 208, 209] ++ [210, 211, 212, 213, 214] ++ [215, 216, 217, 218, 219] ++ [220, 221, 222, 223, 224] ++ [225, 226, 227, 228, 229] ++ [230, 231, 232, 233, 234] ++ [235, 236, 237, 238, 239] ++ [240, 241, 242, 243, 244] ++ [245, 246, 247, 248, 249] ++ [250, 251, 252, 253, 254] ++ [255, 256, 257, 258, 259] ++ [260, 261, 262, 263, 264] ++ [265, 266, 267, 268, 269] ++ [270, 271, 272, 273, 274] ++ [275, 276, 277, 278, 279] ++ [280, 281, 282, 283, 284] ++ [285, 286, 287, 288, 289] ++ [290, 291, 292, 293, 294] ++ [295, 296, 297, 298, 299] ++ [300, 301, 302, 303, 304] ++ [305, 306, 307, 308, 309] ++ [310, 311, 312, 313, 314] ++ [315, 316, 317, 318, 319] ++ [320, 321, 322, 323, 324] := by decide +kernel
    exact this j hj
  simp only [List.mem_append, or_assoc] at h
  rcases h with h | h | h | h | h | h | h | h | h | h | h | h | h | h | h | h | h | h | h | h | h | h | h | h | h | h | h | h | h | h | h | h | h | h | h | h | h | h | h | h | h | h | h | h | h | h | h | h | h | h | h | h | h | h | h | h | h | h | h | h | h | h | h | h | h
  · exact chk_ok mco_0 j h
  · exact chk_ok mco_5 j h
  · exact chk_ok mco_10 j h
  · exact chk_ok mco_15 j h
  · exact chk_ok mco_20 j h
  · exact chk_ok mco_25 j h
  · exact chk_ok mco_30 j h
  · exact chk_ok mco_35 j h
  · exact chk_ok mco_40 j h
  · exact chk_ok mco_45 j h
  · exact chk_ok mco_50 j h
  · exact chk_ok mco_55 j h
  · exact chk_ok mco_60 j h
  · exact chk_ok mco_65 j h
  · exact chk_ok mco_70 j h
  · exact chk_ok mco_75 j h
  · exact chk_ok mco_80 j h
  · exact chk_ok mco_85 j h
  · exact chk_ok mco_90 j h
  · exact chk_ok mco_95 j h
  · exact chk_ok mco_100 j h
  · exact chk_ok mco_105 j h
  · exact chk_ok mco_110 j h
  · exact chk_ok mco_115 j h
  · exact chk_ok mco_120 j h
  · exact chk_ok mco_125 j h
  · exact chk_ok mco_130 j h
  · exact chk_ok mco_135 j h
  · exact chk_ok mco_140 j h
  · exact chk_ok mco_145 j h
  · exact chk_ok mco_150 j h
  · exact chk_ok mco_155 j h
  · exact chk_ok mco_160 j h
  · exact chk_ok mco_165 j h
  · exact chk_ok mco_170 j h
  · exact chk_ok mco_175 j h
  · exact chk_ok mco_180 j h
  · exact chk_ok mco_185 j h
  · exact chk_ok mco_190 j h
  · exact chk_ok mco_195 j h
  · exact chk_ok mco_200 j h
  · exact chk_ok mco_205 j h
  · exact chk_ok mco_210 j h
  · exact chk_ok mco_215 j h
  · exact chk_ok mco_220 j h
  · exact chk_ok mco_225 j h
  · exact chk_ok mco_230 j h
  · exact chk_ok mco_235 j h
  · exact chk_ok mco_240 j h
  · exact chk_ok mco_245 j h
  · exact chk_ok mco_250 j h
  · exact chk_ok mco_255 j h
  · exact chk_ok mco_260 j h
  · exact chk_ok mco_265 j h
  · exact chk_ok mco_270 j h
  · exact chk_ok mco_275 j h
  · exact chk_ok mco_280 j h
  · exact chk_ok mco_285 j h
  · exact chk_ok mco_290 j h
  · exact chk_ok mco_295 j h
  · exact chk_ok mco_300 j h
  · exact chk_ok mco_305 j h
  · exact chk_ok mco_310 j h
  · exact chk_ok mco_315 j h
  · exact chk_ok mco_320 j h
