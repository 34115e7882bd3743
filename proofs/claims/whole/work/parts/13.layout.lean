/-! the cells of the class's world, in the order in which they are made; those of the reference's -/
set_option maxRecDepth 20000 in
def LyK : List LD := [.inl (10, [4, 12, 20, 32, 41, 125, 210, 213, 221, 0, 229, 0]), .inl (0, [0, 0, 0, 0, 0, 5, 6, 7, 8, 10]), .inr (0, 9, []), .inr (0, 9, []), .inr (0, 9, []), .inl (6, [0, 9, 0, 0, 0]), .inr (0, 5, []), .inl (6, [0, 11, 0, 0, 0]), .inr (0, 5, []), .inl (0, [0, 0, 0, 0, 0, 13, 14, 15, 16, 18]), .inr (0, 9, []), .inr (0, 9, []), .inr (0, 9, []), .inl (6, [0, 17, 0, 0, 0]), .inr (0, 5, []), .inl (6, [0, 19, 0, 0, 0]), .inr (0, 5, []), .inl (3, [21, 23, 31, 0, 0, 0]), .inl (8, [22, 0, 0, 0, 0, 0]), .inr (2, 320, []), .inl (0, [0, 0, 0, 0, 0, 24, 25, 26, 27, 29]), .inr (0, 9, []), .inr (0, 9, []), .inr (0, 9, []), .inl (6, [0, 28, 0, 0, 0]), .inr (0, 5, []), .inl (6, [0, 30, 0, 0, 0]), .inr (0, 5, []), .inr (0, 9, []), .inl (1, [33]), .inl (0, [0, 0, 0, 0, 0, 34, 35, 36, 37, 39]), .inr (0, 9, []), .inr (0, 9, []), .inr (0, 9, []), .inl (6, [0, 38, 0, 0, 0]), .inr (0, 5, []), .inl (6, [0, 40, 0, 0, 0]), .inr (0, 5, []), .inl (2, [42, 124, 1]), .inl (7, [43, 44]), .inr (4, 9, [49, 57, 65, 73, 81, 89, 97, 105, 113]), .inl (0, [0, 0, 0, 0, 0, 45, 46, 47, 48, 50]), .inr (0, 9, []), .inr (0, 9, []), .inr (0, 9, []), .inl (6, [0, 49, 0, 0, 0]), .inr (0, 5, []), .inl (6, [0, 51, 0, 0, 0]), .inr (0, 5, []), .inl (0, [0, 0, 0, 0, 0, 53, 54, 55, 56, 58]), .inr (0, 9, []), .inr (0, 9, []), .inr (0, 9, []), .inl (6, [0, 57, 0, 0, 0]), .inr (0, 5, []), .inl (6, [0, 59, 0, 0, 0]), .inr (0, 5, []), .inl (0, [0, 0, 0, 0, 0, 61, 62, 63, 64, 66]), .inr (0, 9, []), .inr (0, 9, []), .inr (0, 9, []), .inl (6, [0, 65, 0, 0, 0]), .inr (0, 5, []), .inl (6, [0, 67, 0, 0, 0]), .inr (0, 5, []), .inl (0, [0, 0, 0, 0, 0, 69, 70, 71, 72, 74]), .inr (0, 9, []), .inr (0, 9, []), .inr (0, 9, []), .inl (6, [0, 73, 0, 0, 0]), .inr (0, 5, []), .inl (6, [0, 75, 0, 0, 0]), .inr (0, 5, []), .inl (0, [0, 0, 0, 0, 0, 77, 78, 79, 80, 82]), .inr (0, 9, []), .inr (0, 9, []), .inr (0, 9, []), .inl (6, [0, 81, 0, 0, 0]), .inr (0, 5, []), .inl (6, [0, 83, 0, 0, 0]), .inr (0, 5, []), .inl (0, [0, 0, 0, 0, 0, 85, 86, 87, 88, 90]), .inr (0, 9, []), .inr (0, 9, []), .inr (0, 9, []), .inl (6, [0, 89, 0, 0, 0]), .inr (0, 5, []), .inl (6, [0, 91, 0, 0, 0]), .inr (0, 5, []), .inl (0, [0, 0, 0, 0, 0, 93, 94, 95, 96, 98]), .inr (0, 9, []), .inr (0, 9, []), .inr (0, 9, []), .inl (6, [0, 97, 0, 0, 0]), .inr (0, 5, []), .inl (6, [0, 99, 0, 0, 0]), .inr (0, 5, []), .inl (0, [0, 0, 0, 0, 0, 101, 102, 103, 104, 106]), .inr (0, 9, []), .inr (0, 9, []), .inr (0, 9, []), .inl (6, [0, 105, 0, 0, 0]), .inr (0, 5, []), .inl (6, [0, 107, 0, 0, 0]), .inr (0, 5, []), .inl (0, [0, 0, 0, 0, 0, 109, 110, 111, 112, 114]), .inr (0, 9, []), .inr (0, 9, []), .inr (0, 9, []), .inl (6, [0, 113, 0, 0, 0]), .inr (0, 5, []), .inl (6, [0, 115, 0, 0, 0]), .inr (0, 5, []), .inl (0, [0, 0, 0, 0, 0, 117, 118, 119, 120, 122]), .inr (0, 9, []), .inr (0, 9, []), .inr (0, 9, []), .inl (6, [0, 121, 0, 0, 0]), .inr (0, 5, []), .inl (6, [0, 123, 0, 0, 0]), .inr (0, 5, []), .inr (1, 11, []), .inl (4, [126, 208, 209, 0, 0, 0, 0]), .inl (7, [127, 128]), .inr (4, 9, [133, 141, 149, 157, 165, 173, 181, 189, 197]), .inl (0, [0, 0, 0, 0, 0, 129, 130, 131, 132, 134]), .inr (0, 9, []), .inr (0, 9, []), .inr (0, 9, []), .inl (6, [0, 133, 0, 0, 0]), .inr (0, 5, []), .inl (6, [0, 135, 0, 0, 0]), .inr (0, 5, []), .inl (0, [0, 0, 0, 0, 0, 137, 138, 139, 140, 142]), .inr (0, 9, []), .inr (0, 9, []), .inr (0, 9, []), .inl (6, [0, 141, 0, 0, 0]), .inr (0, 5, []), .inl (6, [0, 143, 0, 0, 0]), .inr (0, 5, []), .inl (0, [0, 0, 0, 0, 0, 145, 146, 147, 148, 150]), .inr (0, 9, []), .inr (0, 9, []), .inr (0, 9, []), .inl (6, [0, 149, 0, 0, 0]), .inr (0, 5, []), .inl (6, [0, 151, 0, 0, 0]), .inr (0, 5, []), .inl (0, [0, 0, 0, 0, 0, 153, 154, 155, 156, 158]), .inr (0, 9, []), .inr (0, 9, []), .inr (0, 9, []), .inl (6, [0, 157, 0, 0, 0]), .inr (0, 5, []), .inl (6, [0, 159, 0, 0, 0]), .inr (0, 5, []), .inl (0, [0, 0, 0, 0, 0, 161, 162, 163, 164, 166]), .inr (0, 9, []), .inr (0, 9, []), .inr (0, 9, []), .inl (6, [0, 165, 0, 0, 0]), .inr (0, 5, []), .inl (6, [0, 167, 0, 0, 0]), .inr (0, 5, []), .inl (0, [0, 0, 0, 0, 0, 169, 170, 171, 172, 174]), .inr (0, 9, []), .inr (0, 9, []), .inr (0, 9, []), .inl (6, [0, 173, 0, 0, 0]), .inr (0, 5, []), .inl (6, [0, 175, 0, 0, 0]), .inr (0, 5, []), .inl (0, [0, 0, 0, 0, 0, 177, 178, 179, 180, 182]), .inr (0, 9, []), .inr (0, 9, []), .inr (0, 9, []), .inl (6, [0, 181, 0, 0, 0]), .inr (0, 5, []), .inl (6, [0, 183, 0, 0, 0]), .inr (0, 5, []), .inl (0, [0, 0, 0, 0, 0, 185, 186, 187, 188, 190]), .inr (0, 9, []), .inr (0, 9, []), .inr (0, 9, []), .inl (6, [0, 189, 0, 0, 0]), .inr (0, 5, []), .inl (6, [0, 191, 0, 0, 0]), .inr (0, 5, []), .inl (0, [0, 0, 0, 0, 0, 193, 194, 195, 196, 198]), .inr (0, 9, []), .inr (0, 9, []), .inr (0, 9, []), .inl (6, [0, 197, 0, 0, 0]), .inr (0, 5, []), .inl (6, [0, 199, 0, 0, 0]), .inr (0, 5, []), .inl (0, [0, 0, 0, 0, 0, 201, 202, 203, 204, 206]), .inr (0, 9, []), .inr (0, 9, []), .inr (0, 9, []), .inl (6, [0, 205, 0, 0, 0]), .inr (0, 5, []), .inl (6, [0, 207, 0, 0, 0]), .inr (0, 5, []), .inr (0, 4, []), .inr (0, 4, []), .inl (9, [211, 212, 0]), .inr (0, 8, []), .inr (0, 8, []), .inl (0, [0, 0, 0, 0, 0, 214, 215, 216, 217, 219]), .inr (0, 9, []), .inr (0, 9, []), .inr (0, 9, []), .inl (6, [0, 218, 0, 0, 0]), .inr (0, 5, []), .inl (6, [0, 220, 0, 0, 0]), .inr (0, 5, []), .inl (0, [0, 0, 0, 0, 0, 222, 223, 224, 225, 227]), .inr (0, 9, []), .inr (0, 9, []), .inr (0, 9, []), .inl (6, [0, 226, 0, 0, 0]), .inr (0, 5, []), .inl (6, [0, 228, 0, 0, 0]), .inr (0, 5, []), .inr (5, 4, [227, 229, 231, 233]), .inl (5, [0, 0, 231]), .inr (0, 40, []), .inl (5, [0, 0, 233]), .inr (0, 40, []), .inl (5, [0, 0, 235]), .inr (0, 40, []), .inl (5, [0, 0, 237]), .inr (0, 40, [])]
set_option maxRecDepth 20000 in
theorem fk_1 : FAt LyK 1 := ⟨rfl, rfl, rfl, rfl, ⟨rfl, rfl⟩, ⟨rfl, rfl⟩⟩
set_option maxRecDepth 20000 in
theorem fk_9 : FAt LyK 9 := ⟨rfl, rfl, rfl, rfl, ⟨rfl, rfl⟩, ⟨rfl, rfl⟩⟩
set_option maxRecDepth 20000 in
theorem fk_20 : FAt LyK 20 := ⟨rfl, rfl, rfl, rfl, ⟨rfl, rfl⟩, ⟨rfl, rfl⟩⟩
set_option maxRecDepth 20000 in
theorem fk_30 : FAt LyK 30 := ⟨rfl, rfl, rfl, rfl, ⟨rfl, rfl⟩, ⟨rfl, rfl⟩⟩
set_option maxRecDepth 20000 in
theorem fk_41 : FAt LyK 41 := ⟨rfl, rfl, rfl, rfl, ⟨rfl, rfl⟩, ⟨rfl, rfl⟩⟩
set_option maxRecDepth 20000 in
theorem fk_49 : FAt LyK 49 := ⟨rfl, rfl, rfl, rfl, ⟨rfl, rfl⟩, ⟨rfl, rfl⟩⟩
set_option maxRecDepth 20000 in
theorem fk_57 : FAt LyK 57 := ⟨rfl, rfl, rfl, rfl, ⟨rfl, rfl⟩, ⟨rfl, rfl⟩⟩
set_option maxRecDepth 20000 in
theorem fk_65 : FAt LyK 65 := ⟨rfl, rfl, rfl, rfl, ⟨rfl, rfl⟩, ⟨rfl, rfl⟩⟩
set_option maxRecDepth 20000 in
theorem fk_73 : FAt LyK 73 := ⟨rfl, rfl, rfl, rfl, ⟨rfl, rfl⟩, ⟨rfl, rfl⟩⟩
set_option maxRecDepth 20000 in
theorem fk_81 : FAt LyK 81 := ⟨rfl, rfl, rfl, rfl, ⟨rfl, rfl⟩, ⟨rfl, rfl⟩⟩
set_option maxRecDepth 20000 in
theorem fk_89 : FAt LyK 89 := ⟨rfl, rfl, rfl, rfl, ⟨rfl, rfl⟩, ⟨rfl, rfl⟩⟩
set_option maxRecDepth 20000 in
theorem fk_97 : FAt LyK 97 := ⟨rfl, rfl, rfl, rfl, ⟨rfl, rfl⟩, ⟨rfl, rfl⟩⟩
set_option maxRecDepth 20000 in
theorem fk_105 : FAt LyK 105 := ⟨rfl, rfl, rfl, rfl, ⟨rfl, rfl⟩, ⟨rfl, rfl⟩⟩
set_option maxRecDepth 20000 in
theorem fk_113 : FAt LyK 113 := ⟨rfl, rfl, rfl, rfl, ⟨rfl, rfl⟩, ⟨rfl, rfl⟩⟩
set_option maxRecDepth 20000 in
theorem fk_125 : FAt LyK 125 := ⟨rfl, rfl, rfl, rfl, ⟨rfl, rfl⟩, ⟨rfl, rfl⟩⟩
set_option maxRecDepth 20000 in
theorem fk_133 : FAt LyK 133 := ⟨rfl, rfl, rfl, rfl, ⟨rfl, rfl⟩, ⟨rfl, rfl⟩⟩
set_option maxRecDepth 20000 in
theorem fk_141 : FAt LyK 141 := ⟨rfl, rfl, rfl, rfl, ⟨rfl, rfl⟩, ⟨rfl, rfl⟩⟩
set_option maxRecDepth 20000 in
theorem fk_149 : FAt LyK 149 := ⟨rfl, rfl, rfl, rfl, ⟨rfl, rfl⟩, ⟨rfl, rfl⟩⟩
set_option maxRecDepth 20000 in
theorem fk_157 : FAt LyK 157 := ⟨rfl, rfl, rfl, rfl, ⟨rfl, rfl⟩, ⟨rfl, rfl⟩⟩
set_option maxRecDepth 20000 in
theorem fk_165 : FAt LyK 165 := ⟨rfl, rfl, rfl, rfl, ⟨rfl, rfl⟩, ⟨rfl, rfl⟩⟩
set_option maxRecDepth 20000 in
theorem fk_173 : FAt LyK 173 := ⟨rfl, rfl, rfl, rfl, ⟨rfl, rfl⟩, ⟨rfl, rfl⟩⟩
set_option maxRecDepth 20000 in
theorem fk_181 : FAt LyK 181 := ⟨rfl, rfl, rfl, rfl, ⟨rfl, rfl⟩, ⟨rfl, rfl⟩⟩
set_option maxRecDepth 20000 in
theorem fk_189 : FAt LyK 189 := ⟨rfl, rfl, rfl, rfl, ⟨rfl, rfl⟩, ⟨rfl, rfl⟩⟩
set_option maxRecDepth 20000 in
theorem fk_197 : FAt LyK 197 := ⟨rfl, rfl, rfl, rfl, ⟨rfl, rfl⟩, ⟨rfl, rfl⟩⟩
set_option maxRecDepth 20000 in
theorem fk_210 : FAt LyK 210 := ⟨rfl, rfl, rfl, rfl, ⟨rfl, rfl⟩, ⟨rfl, rfl⟩⟩
set_option maxRecDepth 20000 in
theorem fk_218 : FAt LyK 218 := ⟨rfl, rfl, rfl, rfl, ⟨rfl, rfl⟩, ⟨rfl, rfl⟩⟩
set_option maxRecDepth 20000 in
theorem lk_0 : LyK[0]? = some (.inl (10, [4, 12, 20, 32, 41, 125, 210, 213, 221, 0, 229, 0])) := rfl
set_option maxRecDepth 20000 in
theorem lk_17 : LyK[17]? = some (.inl (3, [21, 23, 31, 0, 0, 0])) := rfl
set_option maxRecDepth 20000 in
theorem lk_18 : LyK[18]? = some (.inl (8, [22, 0, 0, 0, 0, 0])) := rfl
set_option maxRecDepth 20000 in
theorem lk_19 : LyK[19]? = some (.inr (2, 320, [])) := rfl
set_option maxRecDepth 20000 in
theorem lk_28 : LyK[28]? = some (.inr (0, 9, [])) := rfl
set_option maxRecDepth 20000 in
theorem lk_29 : LyK[29]? = some (.inl (1, [33])) := rfl
set_option maxRecDepth 20000 in
theorem lk_38 : LyK[38]? = some (.inl (2, [42, 124, 1])) := rfl
set_option maxRecDepth 20000 in
theorem lk_39 : LyK[39]? = some (.inl (7, [43, 44])) := rfl
set_option maxRecDepth 20000 in
theorem lk_40 : LyK[40]? = some (.inr (4, 9, [49, 57, 65, 73, 81, 89, 97, 105, 113])) := rfl
set_option maxRecDepth 20000 in
theorem lk_121 : LyK[121]? = some (.inr (1, 11, [])) := rfl
set_option maxRecDepth 20000 in
theorem lk_122 : LyK[122]? = some (.inl (4, [126, 208, 209, 0, 0, 0, 0])) := rfl
set_option maxRecDepth 20000 in
theorem lk_123 : LyK[123]? = some (.inl (7, [127, 128])) := rfl
set_option maxRecDepth 20000 in
theorem lk_124 : LyK[124]? = some (.inr (4, 9, [133, 141, 149, 157, 165, 173, 181, 189, 197])) := rfl
set_option maxRecDepth 20000 in
theorem lk_205 : LyK[205]? = some (.inr (0, 4, [])) := rfl
set_option maxRecDepth 20000 in
theorem lk_206 : LyK[206]? = some (.inr (0, 4, [])) := rfl
set_option maxRecDepth 20000 in
theorem lk_207 : LyK[207]? = some (.inl (9, [211, 212, 0])) := rfl
set_option maxRecDepth 20000 in
theorem lk_208 : LyK[208]? = some (.inr (0, 8, [])) := rfl
set_option maxRecDepth 20000 in
theorem lk_209 : LyK[209]? = some (.inr (0, 8, [])) := rfl
set_option maxRecDepth 20000 in
theorem lk_226 : LyK[226]? = some (.inr (5, 4, [227, 229, 231, 233])) := rfl
set_option maxRecDepth 20000 in
theorem lk_227 : LyK[227]? = some (.inl (5, [0, 0, 231])) := rfl
set_option maxRecDepth 20000 in
theorem lk_228 : LyK[228]? = some (.inr (0, 40, [])) := rfl
set_option maxRecDepth 20000 in
theorem lk_229 : LyK[229]? = some (.inl (5, [0, 0, 233])) := rfl
set_option maxRecDepth 20000 in
theorem lk_230 : LyK[230]? = some (.inr (0, 40, [])) := rfl
set_option maxRecDepth 20000 in
theorem lk_231 : LyK[231]? = some (.inl (5, [0, 0, 235])) := rfl
set_option maxRecDepth 20000 in
theorem lk_232 : LyK[232]? = some (.inr (0, 40, [])) := rfl
set_option maxRecDepth 20000 in
theorem lk_233 : LyK[233]? = some (.inl (5, [0, 0, 237])) := rfl
set_option maxRecDepth 20000 in
theorem lk_234 : LyK[234]? = some (.inr (0, 40, [])) := rfl
set_option maxRecDepth 20000 in
def LyM : List LD := [.inl (11, [4, 0, 5, 0, 0, 0, 6, 0, 7, 0, 0, 0, 0, 0, 0, 0, 0, 8, 9, 10, 11, 12, 0, 13, 14, 15, 16, 0]), .inr (0, 235, []), .inr (0, 47, []), .inr (0, 9, []), .inr (0, 320, []), .inr (0, 15, []), .inr (0, 64, []), .inr (0, 4, []), .inr (0, 4, []), .inr (0, 16, []), .inr (3, 2, []), .inr (0, 4, []), .inr (0, 4, []), .inr (0, 160, [])]
set_option maxRecDepth 20000 in
theorem lm_0 : LyM[0]? = some (.inl (11, [4, 0, 5, 0, 0, 0, 6, 0, 7, 0, 0, 0, 0, 0, 0, 0, 0, 8, 9, 10, 11, 12, 0, 13, 14, 15, 16, 0])) := rfl
set_option maxRecDepth 20000 in
theorem lm_1 : LyM[1]? = some (.inr (0, 235, [])) := rfl
set_option maxRecDepth 20000 in
theorem lm_2 : LyM[2]? = some (.inr (0, 47, [])) := rfl
set_option maxRecDepth 20000 in
theorem lm_3 : LyM[3]? = some (.inr (0, 9, [])) := rfl
set_option maxRecDepth 20000 in
theorem lm_4 : LyM[4]? = some (.inr (0, 320, [])) := rfl
set_option maxRecDepth 20000 in
theorem lm_5 : LyM[5]? = some (.inr (0, 15, [])) := rfl
set_option maxRecDepth 20000 in
theorem lm_6 : LyM[6]? = some (.inr (0, 64, [])) := rfl
set_option maxRecDepth 20000 in
theorem lm_7 : LyM[7]? = some (.inr (0, 4, [])) := rfl
set_option maxRecDepth 20000 in
theorem lm_8 : LyM[8]? = some (.inr (0, 4, [])) := rfl
set_option maxRecDepth 20000 in
theorem lm_9 : LyM[9]? = some (.inr (0, 16, [])) := rfl
set_option maxRecDepth 20000 in
theorem lm_10 : LyM[10]? = some (.inr (3, 2, [])) := rfl
set_option maxRecDepth 20000 in
theorem lm_11 : LyM[11]? = some (.inr (0, 4, [])) := rfl
set_option maxRecDepth 20000 in
theorem lm_12 : LyM[12]? = some (.inr (0, 4, [])) := rfl
set_option maxRecDepth 20000 in
theorem lm_13 : LyM[13]? = some (.inr (0, 160, [])) := rfl
