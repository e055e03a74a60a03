/-! ===== law(), by the reference ===== -/
set_option maxRecDepth 20000 in
theorem UC_Mo_law_28 {G : GT} (hG : Gmono G) (R : RT) (lm : Nat × Nat) : WP cd_Mo_law G R lm 0 = stp G R lm (2, 1, 0, 0, 0, 0, []) (WP cd_Mo_law G R lm) ∧ WP cd_Mo_law G R lm 1 = stp G R lm (7, 2, 0, 0, nI 0, 0, []) (WP cd_Mo_law G R lm) ∧ WP cd_Mo_law G R lm 2 = stp G R lm (59, 5, 8, 0, 0, 0, []) (WP cd_Mo_law G R lm) ∧ WP cd_Mo_law G R lm 5 = stp G R lm (2, 6, 0, 0, 0, 0, []) (WP cd_Mo_law G R lm) ∧ WP cd_Mo_law G R lm 6 = stp G R lm (58, 9, 8, 3, 0, 0, []) (WP cd_Mo_law G R lm) ∧ WP cd_Mo_law G R lm 9 = stp G R lm (7, 10, 0, 0, nI 1, 0, []) (WP cd_Mo_law G R lm) ∧ WP cd_Mo_law G R lm 10 = stp G R lm (62, 11, 0, 0, 0, 0, []) (WP cd_Mo_law G R lm) ∧ WP cd_Mo_law G R lm 11 = stp G R lm (7, 13, 0, 0, nI 6, 0, []) (WP cd_Mo_law G R lm) ∧ WP cd_Mo_law G R lm 13 = stp G R lm (42, 16, 28, 0, 0, 0, []) (WP cd_Mo_law G R lm) ∧ WP cd_Mo_law G R lm 16 = stp G R lm (2, 17, 0, 0, 0, 0, []) (WP cd_Mo_law G R lm) ∧ WP cd_Mo_law G R lm 17 = stp G R lm (7, 18, 0, 0, nI 0, 0, []) (WP cd_Mo_law G R lm) ∧ WP cd_Mo_law G R lm 18 = stp G R lm (59, 21, 8, 13, 0, 0, []) (WP cd_Mo_law G R lm) ∧ WP cd_Mo_law G R lm 21 = stp G R lm (2, 22, 0, 0, 0, 0, []) (WP cd_Mo_law G R lm) ∧ WP cd_Mo_law G R lm 22 = stp G R lm (7, 24, 0, 0, (-5), 0, []) (WP cd_Mo_law G R lm) ∧ WP cd_Mo_law G R lm 24 = stp G R lm (86, 27, 133, 1, 0, 0, [8]) (WP cd_Mo_law G R lm) ∧ WP cd_Mo_law G R lm 27 = stp G R lm (81, 28, 0, 0, 0, 0, []) (WP cd_Mo_law G R lm) ∧ WP cd_Mo_law G R lm 29 = stp G R lm (7, 30, 0, 0, nI 0, 0, []) (WP cd_Mo_law G R lm) ∧ WP cd_Mo_law G R lm 30 = stp G R lm (86, 33, 187, 1, 0, 0, [8]) (WP cd_Mo_law G R lm) ∧ WP cd_Mo_law G R lm 33 = stp G R lm (2, 34, 0, 0, 0, 0, []) (WP cd_Mo_law G R lm) ∧ WP cd_Mo_law G R lm 34 = stp G R lm (86, 37, 189, 0, 0, 0, [8]) (WP cd_Mo_law G R lm) ∧ WP cd_Mo_law G R lm 38 = stp G R lm (56, 41, 8, 19, 0, 0, []) (WP cd_Mo_law G R lm) ∧ WP cd_Mo_law G R lm 41 = stp G R lm (48, 44, 64, 0, 0, 0, []) (WP cd_Mo_law G R lm) ∧ WP cd_Mo_law G R lm 44 = stp G R lm (2, 45, 0, 0, 0, 0, []) (WP cd_Mo_law G R lm) ∧ WP cd_Mo_law G R lm 45 = stp G R lm (7, 47, 0, 0, nI 59, 0, []) (WP cd_Mo_law G R lm) ∧ WP cd_Mo_law G R lm 47 = stp G R lm (86, 50, 168, 1, 0, 0, [8]) (WP cd_Mo_law G R lm) ∧ WP cd_Mo_law G R lm 50 = stp G R lm (47, 53, 64, 0, 0, 0, []) (WP cd_Mo_law G R lm) ∧ WP cd_Mo_law G R lm 53 = stp G R lm (2, 54, 0, 0, 0, 0, []) (WP cd_Mo_law G R lm) ∧ WP cd_Mo_law G R lm 54 = stp G R lm (86, 57, 166, 0, 0, 0, [8]) (WP cd_Mo_law G R lm) ∧ WP cd_Mo_law G R lm 57 = stp G R lm (2, 58, 0, 0, 0, 0, []) (WP cd_Mo_law G R lm) ∧ WP cd_Mo_law G R lm 58 = stp G R lm (86, 61, 189, 0, 0, 0, [8]) (WP cd_Mo_law G R lm) ∧ WP cd_Mo_law G R lm 61 = stp G R lm (40, 37, 0, 0, 0, 0, []) (WP cd_Mo_law G R lm) ∧ WP cd_Mo_law G R lm 64 = stp G R lm (2, 65, 0, 0, 0, 0, []) (WP cd_Mo_law G R lm) ∧ WP cd_Mo_law G R lm 65 = stp G R lm (86, 68, 188, 0, 0, 0, [8]) (WP cd_Mo_law G R lm) ∧ WP cd_Mo_law G R lm 68 = stp G R lm (2, 69, 0, 0, 0, 0, []) (WP cd_Mo_law G R lm) ∧ WP cd_Mo_law G R lm 69 = stp G R lm (56, 72, 8, 19, 0, 0, []) (WP cd_Mo_law G R lm) ∧ WP cd_Mo_law G R lm 72 = stp G R lm (47, 75, 82, 0, 0, 0, []) (WP cd_Mo_law G R lm) ∧ WP cd_Mo_law G R lm 75 = stp G R lm (2, 76, 0, 0, 0, 0, []) (WP cd_Mo_law G R lm) ∧ WP cd_Mo_law G R lm 76 = stp G R lm (7, 78, 0, 0, (-6), 0, []) (WP cd_Mo_law G R lm) ∧ WP cd_Mo_law G R lm 78 = stp G R lm (86, 81, 133, 1, 0, 0, [8]) (WP cd_Mo_law G R lm) ∧ WP cd_Mo_law G R lm 81 = stp G R lm (81, 82, 0, 0, 0, 0, []) (WP cd_Mo_law G R lm) ∧ WP cd_Mo_law G R lm 82 = stp G R lm (7, 85, 0, 0, nI 2022, 0, []) (WP cd_Mo_law G R lm) ∧ WP cd_Mo_law G R lm 85 = stp G R lm (7, 88, 0, 0, nI 900, 0, []) (WP cd_Mo_law G R lm) ∧ WP cd_Mo_law G R lm 88 = stp G R lm (2, 89, 0, 0, 0, 0, []) (WP cd_Mo_law G R lm) ∧ WP cd_Mo_law G R lm 89 = stp G R lm (58, 92, 8, 3, 0, 0, []) (WP cd_Mo_law G R lm) ∧ WP cd_Mo_law G R lm 92 = stp G R lm (7, 93, 0, 0, nI 1, 0, []) (WP cd_Mo_law G R lm) ∧ WP cd_Mo_law G R lm 93 = stp G R lm (62, 94, 0, 0, 0, 0, []) (WP cd_Mo_law G R lm) ∧ WP cd_Mo_law G R lm 94 = stp G R lm (14, 95, 0, 0, 0, 0, []) (WP cd_Mo_law G R lm) ∧ WP cd_Mo_law G R lm 95 = stp G R lm (12, 96, 0, 0, 0, 0, []) (WP cd_Mo_law G R lm) ∧ WP cd_Mo_law G R lm 96 = stp G R lm (4, 97, 1, 0, 0, 0, []) (WP cd_Mo_law G R lm) ∧ WP cd_Mo_law G R lm 97 = stp G R lm (2, 98, 0, 0, 0, 0, []) (WP cd_Mo_law G R lm) ∧ WP cd_Mo_law G R lm 98 = stp G R lm (58, 101, 8, 3, 0, 0, []) (WP cd_Mo_law G R lm) ∧ WP cd_Mo_law G R lm 101 = stp G R lm (1, 102, 1, 0, 0, 0, []) (WP cd_Mo_law G R lm) ∧ WP cd_Mo_law G R lm 102 = stp G R lm (7, 103, 0, 0, nI 1, 0, []) (WP cd_Mo_law G R lm) ∧ WP cd_Mo_law G R lm 103 = stp G R lm (12, 104, 0, 0, 0, 0, []) (WP cd_Mo_law G R lm) ∧ WP cd_Mo_law G R lm 104 = stp G R lm (2, 105, 0, 0, 0, 0, []) (WP cd_Mo_law G R lm) ∧ WP cd_Mo_law G R lm 105 = stp G R lm (56, 108, 8, 21, 0, 0, []) (WP cd_Mo_law G R lm) ∧ WP cd_Mo_law G R lm 108 = stp G R lm (66, 109, 0, 0, 0, 0, []) (WP cd_Mo_law G R lm) ∧ WP cd_Mo_law G R lm 109 = stp G R lm (7, 110, 0, 0, nI 0, 0, []) (WP cd_Mo_law G R lm) ∧ WP cd_Mo_law G R lm 110 = stp G R lm (4, 111, 2, 0, 0, 0, []) (WP cd_Mo_law G R lm) ∧ WP cd_Mo_law G R lm 112 = stp G R lm (7, 114, 0, 0, nI 8, 0, []) (WP cd_Mo_law G R lm) ∧ WP cd_Mo_law G R lm 114 = stp G R lm (2, 115, 0, 0, 0, 0, []) (WP cd_Mo_law G R lm) ∧ WP cd_Mo_law G R lm 115 = stp G R lm (56, 118, 8, 21, 0, 0, []) (WP cd_Mo_law G R lm) ∧ WP cd_Mo_law G R lm 118 = stp G R lm (14, 119, 0, 0, 0, 0, []) (WP cd_Mo_law G R lm) ∧ WP cd_Mo_law G R lm 119 = stp G R lm (44, 122, 144, 0, 0, 0, []) (WP cd_Mo_law G R lm) ∧ WP cd_Mo_law G R lm 122 = stp G R lm (2, 123, 0, 0, 0, 0, []) (WP cd_Mo_law G R lm) ∧ WP cd_Mo_law G R lm 123 = stp G R lm (58, 126, 8, 3, 0, 0, []) (WP cd_Mo_law G R lm) ∧ WP cd_Mo_law G R lm 126 = stp G R lm (1, 127, 1, 0, 0, 0, []) (WP cd_Mo_law G R lm) ∧ WP cd_Mo_law G R lm 127 = stp G R lm (7, 128, 0, 0, nI 2, 0, []) (WP cd_Mo_law G R lm) ∧ WP cd_Mo_law G R lm 128 = stp G R lm (12, 129, 0, 0, 0, 0, []) (WP cd_Mo_law G R lm) ∧ WP cd_Mo_law G R lm 129 = stp G R lm (1, 130, 2, 0, 0, 0, []) (WP cd_Mo_law G R lm) ∧ WP cd_Mo_law G R lm 130 = stp G R lm (12, 131, 0, 0, 0, 0, []) (WP cd_Mo_law G R lm) ∧ WP cd_Mo_law G R lm 131 = stp G R lm (2, 132, 0, 0, 0, 0, []) (WP cd_Mo_law G R lm) ∧ WP cd_Mo_law G R lm 132 = stp G R lm (58, 135, 8, 22, 0, 0, []) (WP cd_Mo_law G R lm) ∧ WP cd_Mo_law G R lm 135 = stp G R lm (1, 136, 2, 0, 0, 0, []) (WP cd_Mo_law G R lm) ∧ WP cd_Mo_law G R lm 136 = stp G R lm (62, 137, 0, 0, 0, 0, []) (WP cd_Mo_law G R lm) ∧ WP cd_Mo_law G R lm 137 = stp G R lm (66, 138, 0, 0, 0, 0, []) (WP cd_Mo_law G R lm) ∧ WP cd_Mo_law G R lm 138 = stp G R lm (11, 141, 2, 0, nI 1, 0, []) (WP cd_Mo_law G R lm) ∧ WP cd_Mo_law G R lm 141 = stp G R lm (40, 111, 0, 0, 0, 0, []) (WP cd_Mo_law G R lm) ∧ WP cd_Mo_law G R lm 144 = stp G R lm (7, 145, 0, 0, nI 0, 0, []) (WP cd_Mo_law G R lm) ∧ WP cd_Mo_law G R lm 145 = stp G R lm (4, 146, 2, 0, 0, 0, []) (WP cd_Mo_law G R lm) ∧ WP cd_Mo_law G R lm 147 = stp G R lm (2, 148, 0, 0, 0, 0, []) (WP cd_Mo_law G R lm) ∧ WP cd_Mo_law G R lm 148 = stp G R lm (56, 151, 8, 23, 0, 0, []) (WP cd_Mo_law G R lm) ∧ WP cd_Mo_law G R lm 151 = stp G R lm (44, 154, 200, 0, 0, 0, []) (WP cd_Mo_law G R lm) ∧ WP cd_Mo_law G R lm 154 = stp G R lm (2, 155, 0, 0, 0, 0, []) (WP cd_Mo_law G R lm) ∧ WP cd_Mo_law G R lm 155 = stp G R lm (58, 158, 8, 3, 0, 0, []) (WP cd_Mo_law G R lm) ∧ WP cd_Mo_law G R lm 158 = stp G R lm (1, 159, 1, 0, 0, 0, []) (WP cd_Mo_law G R lm) ∧ WP cd_Mo_law G R lm 159 = stp G R lm (7, 161, 0, 0, nI 98, 0, []) (WP cd_Mo_law G R lm) ∧ WP cd_Mo_law G R lm 161 = stp G R lm (12, 162, 0, 0, 0, 0, []) (WP cd_Mo_law G R lm) ∧ WP cd_Mo_law G R lm 162 = stp G R lm (7, 163, 0, 0, nI 2, 0, []) (WP cd_Mo_law G R lm) ∧ WP cd_Mo_law G R lm 163 = stp G R lm (1, 164, 2, 0, 0, 0, []) (WP cd_Mo_law G R lm) ∧ WP cd_Mo_law G R lm 164 = stp G R lm (14, 165, 0, 0, 0, 0, []) (WP cd_Mo_law G R lm) ∧ WP cd_Mo_law G R lm 165 = stp G R lm (12, 166, 0, 0, 0, 0, []) (WP cd_Mo_law G R lm) ∧ WP cd_Mo_law G R lm 166 = stp G R lm (2, 167, 0, 0, 0, 0, []) (WP cd_Mo_law G R lm) ∧ WP cd_Mo_law G R lm 167 = stp G R lm (58, 170, 8, 24, 0, 0, []) (WP cd_Mo_law G R lm) ∧ WP cd_Mo_law G R lm 170 = stp G R lm (1, 171, 2, 0, 0, 0, []) (WP cd_Mo_law G R lm) ∧ WP cd_Mo_law G R lm 171 = stp G R lm (62, 172, 0, 0, 0, 0, []) (WP cd_Mo_law G R lm) ∧ WP cd_Mo_law G R lm 172 = stp G R lm (66, 173, 0, 0, 0, 0, []) (WP cd_Mo_law G R lm) ∧ WP cd_Mo_law G R lm 173 = stp G R lm (2, 174, 0, 0, 0, 0, []) (WP cd_Mo_law G R lm) ∧ WP cd_Mo_law G R lm 174 = stp G R lm (58, 177, 8, 3, 0, 0, []) (WP cd_Mo_law G R lm) ∧ WP cd_Mo_law G R lm 177 = stp G R lm (1, 178, 1, 0, 0, 0, []) (WP cd_Mo_law G R lm) ∧ WP cd_Mo_law G R lm 178 = stp G R lm (7, 180, 0, 0, nI 98, 0, []) (WP cd_Mo_law G R lm) ∧ WP cd_Mo_law G R lm 180 = stp G R lm (12, 181, 0, 0, 0, 0, []) (WP cd_Mo_law G R lm) ∧ WP cd_Mo_law G R lm 181 = stp G R lm (7, 182, 0, 0, nI 2, 0, []) (WP cd_Mo_law G R lm) ∧ WP cd_Mo_law G R lm 182 = stp G R lm (1, 183, 2, 0, 0, 0, []) (WP cd_Mo_law G R lm) ∧ WP cd_Mo_law G R lm 183 = stp G R lm (14, 184, 0, 0, 0, 0, []) (WP cd_Mo_law G R lm) ∧ WP cd_Mo_law G R lm 184 = stp G R lm (12, 185, 0, 0, 0, 0, []) (WP cd_Mo_law G R lm) ∧ WP cd_Mo_law G R lm 185 = stp G R lm (7, 186, 0, 0, nI 1, 0, []) (WP cd_Mo_law G R lm) ∧ WP cd_Mo_law G R lm 186 = stp G R lm (12, 187, 0, 0, 0, 0, []) (WP cd_Mo_law G R lm) ∧ WP cd_Mo_law G R lm 187 = stp G R lm (2, 188, 0, 0, 0, 0, []) (WP cd_Mo_law G R lm) ∧ WP cd_Mo_law G R lm 188 = stp G R lm (58, 191, 8, 25, 0, 0, []) (WP cd_Mo_law G R lm) ∧ WP cd_Mo_law G R lm 191 = stp G R lm (1, 192, 2, 0, 0, 0, []) (WP cd_Mo_law G R lm) ∧ WP cd_Mo_law G R lm 192 = stp G R lm (62, 193, 0, 0, 0, 0, []) (WP cd_Mo_law G R lm) ∧ WP cd_Mo_law G R lm 193 = stp G R lm (66, 194, 0, 0, 0, 0, []) (WP cd_Mo_law G R lm) ∧ WP cd_Mo_law G R lm 194 = stp G R lm (11, 197, 2, 0, nI 1, 0, []) (WP cd_Mo_law G R lm) ∧ WP cd_Mo_law G R lm 197 = stp G R lm (40, 146, 0, 0, 0, 0, []) (WP cd_Mo_law G R lm) ∧ WP cd_Mo_law G R lm 200 = stp G R lm (2, 201, 0, 0, 0, 0, []) (WP cd_Mo_law G R lm) ∧ WP cd_Mo_law G R lm 201 = stp G R lm (58, 204, 8, 3, 0, 0, []) (WP cd_Mo_law G R lm) ∧ WP cd_Mo_law G R lm 204 = stp G R lm (7, 205, 0, 0, nI 1, 0, []) (WP cd_Mo_law G R lm) ∧ WP cd_Mo_law G R lm 205 = stp G R lm (38, 206, 0, 0, 0, 0, []) (WP cd_Mo_law G R lm) ∧ WP cd_Mo_law G R lm 206 = stp G R lm (62, 207, 0, 0, 0, 0, []) (WP cd_Mo_law G R lm) ∧ WP cd_Mo_law G R lm 207 = stp G R lm (7, 208, 0, 0, nI 1, 0, []) (WP cd_Mo_law G R lm) ∧ WP cd_Mo_law G R lm 208 = stp G R lm (12, 209, 0, 0, 0, 0, []) (WP cd_Mo_law G R lm) ∧ WP cd_Mo_law G R lm 209 = stp G R lm (66, 210, 0, 0, 0, 0, []) (WP cd_Mo_law G R lm) ∧ WP cd_Mo_law G R lm 210 = stp G R lm (2, 211, 0, 0, 0, 0, []) (WP cd_Mo_law G R lm) ∧ WP cd_Mo_law G R lm 211 = stp G R lm (2, 212, 0, 0, 0, 0, []) (WP cd_Mo_law G R lm) ∧ WP cd_Mo_law G R lm 212 = stp G R lm (58, 215, 8, 3, 0, 0, []) (WP cd_Mo_law G R lm) ∧ WP cd_Mo_law G R lm 215 = stp G R lm (7, 216, 0, 0, nI 1, 0, []) (WP cd_Mo_law G R lm) ∧ WP cd_Mo_law G R lm 216 = stp G R lm (62, 217, 0, 0, 0, 0, []) (WP cd_Mo_law G R lm) ∧ WP cd_Mo_law G R lm 217 = stp G R lm (7, 218, 0, 0, nI 1, 0, []) (WP cd_Mo_law G R lm) ∧ WP cd_Mo_law G R lm 218 = stp G R lm (13, 219, 0, 0, 0, 0, []) (WP cd_Mo_law G R lm) ∧ WP cd_Mo_law G R lm 219 = stp G R lm (86, 222, 133, 1, 0, 0, [8]) (WP cd_Mo_law G R lm) ∧ WP cd_Mo_law G R lm 222 = stp G R lm (81, 223, 0, 0, 0, 0, []) (WP cd_Mo_law G R lm) := ⟨WP_eq hG rfl, WP_eq hG rfl, WP_eq hG rfl, WP_eq hG rfl, WP_eq hG rfl, WP_eq hG rfl, WP_eq hG rfl, WP_eq hG rfl, WP_eq hG rfl, WP_eq hG rfl, WP_eq hG rfl, WP_eq hG rfl, WP_eq hG rfl, WP_eq hG rfl, WP_eq hG rfl, WP_eq hG rfl, WP_eq hG rfl, WP_eq hG rfl, WP_eq hG rfl, WP_eq hG rfl, WP_eq hG rfl, WP_eq hG rfl, WP_eq hG rfl, WP_eq hG rfl, WP_eq hG rfl, WP_eq hG rfl, WP_eq hG rfl, WP_eq hG rfl, WP_eq hG rfl, WP_eq hG rfl, WP_eq hG rfl, WP_eq hG rfl, WP_eq hG rfl, WP_eq hG rfl, WP_eq hG rfl, WP_eq hG rfl, WP_eq hG rfl, WP_eq hG rfl, WP_eq hG rfl, WP_eq hG rfl, WP_eq hG rfl, WP_eq hG rfl, WP_eq hG rfl, WP_eq hG rfl, WP_eq hG rfl, WP_eq hG rfl, WP_eq hG rfl, WP_eq hG rfl, WP_eq hG rfl, WP_eq hG rfl, WP_eq hG rfl, WP_eq hG rfl, WP_eq hG rfl, WP_eq hG rfl, WP_eq hG rfl, WP_eq hG rfl, WP_eq hG rfl, WP_eq hG rfl, WP_eq hG rfl, WP_eq hG rfl, WP_eq hG rfl, WP_eq hG rfl, WP_eq hG rfl, WP_eq hG rfl, WP_eq hG rfl, WP_eq hG rfl, WP_eq hG rfl, WP_eq hG rfl, WP_eq hG rfl, WP_eq hG rfl, WP_eq hG rfl, WP_eq hG rfl, WP_eq hG rfl, WP_eq hG rfl, WP_eq hG rfl, WP_eq hG rfl, WP_eq hG rfl, WP_eq hG rfl, WP_eq hG rfl, WP_eq hG rfl, WP_eq hG rfl, WP_eq hG rfl, WP_eq hG rfl, WP_eq hG rfl, WP_eq hG rfl, WP_eq hG rfl, WP_eq hG rfl, WP_eq hG rfl, WP_eq hG rfl, WP_eq hG rfl, WP_eq hG rfl, WP_eq hG rfl, WP_eq hG rfl, WP_eq hG rfl, WP_eq hG rfl, WP_eq hG rfl, WP_eq hG rfl, WP_eq hG rfl, WP_eq hG rfl, WP_eq hG rfl, WP_eq hG rfl, WP_eq hG rfl, WP_eq hG rfl, WP_eq hG rfl, WP_eq hG rfl, WP_eq hG rfl, WP_eq hG rfl, WP_eq hG rfl, WP_eq hG rfl, WP_eq hG rfl, WP_eq hG rfl, WP_eq hG rfl, WP_eq hG rfl, WP_eq hG rfl, WP_eq hG rfl, WP_eq hG rfl, WP_eq hG rfl, WP_eq hG rfl, WP_eq hG rfl, WP_eq hG rfl, WP_eq hG rfl, WP_eq hG rfl, WP_eq hG rfl, WP_eq hG rfl, WP_eq hG rfl, WP_eq hG rfl, WP_eq hG rfl, WP_eq hG rfl, WP_eq hG rfl, WP_eq hG rfl, WP_eq hG rfl, WP_eq hG rfl⟩
def c0 : CLA := (0, 1, none, fun _ => vZ)
def LWof (cs : List CLA) : LWS := (cs.length, fun i => (cs.getD i c0).1, fun i => (cs.getD i c0).2.2.1, fun i => (cs.getD i c0).2.2.2 0)
theorem getD_of {cs : List CLA} {i : Nat} (h : i < cs.length) : cs[i]? = some (cs.getD i c0) := by
  rw [List.getElem?_eq_getElem h, List.getD_eq_getElem?_getD, List.getElem?_eq_getElem h]
  rfl
def lawRow (p : RW) (f n nc : Nat) (g o a : Nat → Int32) : RW := up1 (cpD (cpS (up1 p (2022 + 900 * f + 1) (nI n)) (2022 + 900 * f + 2) g 0 (8 * n)) (2022 + 900 * f + 98) o a 0 nc) 1 (nI (f + 1))
theorem lawRow_o {p : RW} {f n nc : Nat} {g o a : Nat → Int32} (hn : n ≤ 12) (hc : nc ≤ 400) {x : Nat} (h1 : x ≠ 1) (hx : x < 2022 + 900 * f ∨ 2022 + 900 * (f + 1) ≤ x) : lawRow p f n nc g o a x = p x := by
  unfold lawRow
  rw [up1_n _ _ h1]
  unfold cpD
  rw [if_neg (by omega)]
  unfold cpS
  rw [if_neg (by omega), up1_n _ _ (by omega)]
theorem lawRow_n {p : RW} {f n nc : Nat} {g o a : Nat → Int32} : lawRow p f n nc g o a (2022 + 900 * f + 1) = nI n := by
  unfold lawRow
  rw [up1_n _ _ (by omega)]
  unfold cpD
  rw [if_neg (by omega)]
  unfold cpS
  rw [if_neg (by omega), up1_s]
theorem lawRow_g {p : RW} {f n nc : Nat} {g o a : Nat → Int32} (hn : n ≤ 12) {k : Nat} (hk : k < 8 * n) : lawRow p f n nc g o a (2022 + 900 * f + 2 + k) = g k := by
  unfold lawRow
  rw [up1_n _ _ (by omega)]
  unfold cpD
  rw [if_neg (by omega)]
  unfold cpS
  rw [if_pos (by omega), show 2022 + 900 * f + 2 + k - (2022 + 900 * f + 2) = k by omega]
theorem lawRow_c {p : RW} {f n nc : Nat} {g o a : Nat → Int32} {k : Nat} (hk : k < nc) : lawRow p f n nc g o a (2022 + 900 * f + 98 + 2 * k) = o k ∧ lawRow p f n nc g o a (2022 + 900 * f + 98 + 2 * k + 1) = a k := by
  unfold lawRow
  rw [up1_n _ _ (by omega), up1_n _ _ (by omega)]
  unfold cpD
  rw [if_pos (by omega), if_pos (by omega), if_pos (by omega), if_neg (by omega), show (2022 + 900 * f + 98 + 2 * k - (2022 + 900 * f + 98)) / 2 = k by omega, show (2022 + 900 * f + 98 + 2 * k + 1 - (2022 + 900 * f + 98)) / 2 = k by omega]
  exact ⟨rfl, rfl⟩
theorem TX_of {p : RW} {f nc : Nat} {g o a : Nat → Int32} {cs : List CLA} {cf : CFt} (hf : f < 6) (h1 : 1 ≤ cs.length) (h12 : cs.length ≤ 12) (hc : nc ≤ 400) (cv : CV 0 cf nc) (hoa : ∀ i, i < nc → o i = nI (cf i).1 ∧ a i = nI (cf i).2) (hm : ∀ j x, cs[j]? = some x → MClL g cf nc (8 * j) x) : TX (lawRow p f cs.length nc g o a) f (LWof cs) := by
  refine ⟨hf, h1, h12, lawRow_n, lM 0 cf, nc, hc, fun k hk => ?_, fun i hi => ?_⟩
  · obtain ⟨v1, v2, v3⟩ := cv k hk
    obtain ⟨e1, e2⟩ := lawRow_c (p := p) (f := f) (n := cs.length) (g := g) (o := o) (a := a) hk
    obtain ⟨u1, u2⟩ := hoa k hk
    exact ⟨(cf k).1, (cf k).2, v1, v2, fun a b => (v3 a b).1 rfl, e1.trans u1, e2.trans u2, rfl⟩
  · have hi' : i < cs.length := hi
    obtain ⟨m1, m2, s0, s1, t0, t1, e1, e2, e3, e4, l1, l2, l3, ct, cs'⟩ := hm i _ (getD_of hi')
    have G : ∀ y, y < 8 → lawRow p f cs.length nc g o a (2022 + 900 * f + 2 + 8 * i + y) = g (8 * i + y) := fun y hy => by
      have := lawRow_g (p := p) (f := f) (nc := nc) (g := g) (o := o) (a := a) h12 (k := 8 * i + y) (by omega)
      rw [← this]; congr 1; omega
    refine ⟨m1, (G 0 (by omega)).trans m2, s0, s1, t0, t1, (G 3 (by omega)).trans e1, (G 4 (by omega)).trans e2, (G 5 (by omega)).trans e3, (G 6 (by omega)).trans e4, by omega, l2, l3, ?_, fun z => ⟨20, by omega, cs' z⟩⟩
    show (match (cs.getD i c0).2.2.1 with
      | none => t1 ≤ t0
      | some v => TestV v ∧ ∃ D, D ≤ 60 ∧ Seg (lM 0 cf) t0 t1 D v)
    revert ct
    cases (cs.getD i c0).2.2.1 with
    | none => exact fun ct => ct
    | some v => exact fun ct => ⟨ct.1, 20, by omega, ct.2⟩
theorem pTx_ne {T : TP} {om : Nat} : ∀ (m q k : Nat) {cs : List CLA}, pTx T om m q k = .ok cs → 1 ≤ cs.length ∧ cs.length ≤ m
  | 0, q, k, cs, h => by cases h
  | m + 1, q, k, cs, h => by
    unfold pTx at h
    split at h
    · cases h
    · split at h
      · cases h; exact ⟨by show 1 ≤ 1; omega, by show 1 ≤ m + 1; omega⟩
      · split at h
        · split at h
          · cases h
          · next cs' e =>
            obtain ⟨a, b⟩ := pTx_ne m _ _ e
            cases h
            exact ⟨by rw [List.length_cons]; omega, by rw [List.length_cons]; omega⟩
        · cases h
/-- the frame of a text's call -/
def MLF (h h' : MH) : Prop := (hsz h' = hsz h ∧ hcc h' = hcc h ∧ hcu h' = hcu h ∧ SHE h h' ∧ hja h' = hja h) ∧ (∀ a, a ≠ 273 → hfi h' a = hfi h a ∧ hfj h' a = hfj h a) ∧ (∀ a, (a < 274 ∨ 275 < a) → (a < 283 ∨ 287 < a) → a ≠ 298 → hia h' a = hia h a) ∧ (∀ k, (2 ≤ k ∧ k < 13) ∨ k = 22 ∨ k = 24 ∨ k = 25 ∨ k = 27 ∨ k = 28 ∨ 30 < k → hfi h' 273 k = hfi h 273 k) ∧ (∀ k, k ≠ 17 → hfj h' 273 k = hfj h 273 k)
theorem MTG.L {h h' : MH} (x : MTG h h') : MLF h h' := ⟨x.1, x.2.1, fun a _ c d => x.2.2.1 a c d, fun k hk => x.2.2.2.1 k (by omega), x.2.2.2.2⟩
theorem MLF.trans {a b c : MH} (x : MLF a b) (y : MLF b c) : MLF a c := by
  obtain ⟨⟨x1, x2, x3, x4, x5⟩, x6, x7, x8, x9⟩ := x
  obtain ⟨⟨y1, y2, y3, y4, y5⟩, y6, y7, y8, y9⟩ := y
  exact ⟨⟨y1.trans x1, y2.trans x2, y3.trans x3, x4.trans y4, y5.trans x5⟩, fun p q => ⟨((y6 p q).1).trans (x6 p q).1, ((y6 p q).2).trans (x6 p q).2⟩, fun p q r s => (y7 p q r s).trans (x7 p q r s), fun p a => (y8 p a).trans (x8 p a), fun p q => (y9 p q).trans (x9 p q)⟩
theorem MLF_f {h : MH} (f : Nat → Int32) (hf : ∀ k, (2 ≤ k ∧ k < 13) ∨ k = 22 ∨ k = 24 ∨ k = 25 ∨ k = 27 ∨ k = 28 ∨ 30 < k → f k = hfi h 273 k) : MLF h (sFI h 273 f) := ⟨⟨rfl, rfl, rfl, SHE.refl h, rfl⟩, fun a ha => ⟨hfi_nn _ _ ha, rfl⟩, fun _ _ _ _ => rfl, fun k hk => by rw [hfi_s]; exact hf k hk, fun _ _ => rfl⟩
theorem MLF_i {h : MH} {x : Nat} (hx : x = 274 ∨ x = 275) (f : Nat → Int32) : MLF h (sIA h x f) := ⟨⟨rfl, rfl, rfl, SHE.refl h, rfl⟩, fun _ _ => ⟨rfl, rfl⟩, fun a b _ _ => hia_n _ _ (by omega), fun _ _ => rfl, fun _ _ => rfl⟩
theorem MLF_tn (h : MH) (v : Int32) (k : Nat) : MLF h (tnH h v k) := (MLF_f _ (fun k hk => by rw [up1_n _ _ (by omega)])).trans (MLF_i (Or.inl rfl) _)
theorem MLF_tp (h : MH) : MLF h (tpH h) := MLF_f _ (fun k hk => by rw [up1_n _ _ (by omega)])
theorem tn_g (h : MH) (v : Int32) (k : Nat) : hfi (tnH h v k) 273 = up1 (hfi h 273) 1 v ∧ hia (tnH h v k) 274 = up1 (hia h 274) k (hia h 274 k + nI 1) ∧ (∀ a, a ≠ 274 → hia (tnH h v k) a = hia h a) := ⟨by show hfi (sFI h 273 (up1 (hfi h 273) 1 v)) 273 = _; exact hfi_s _ _ _, by unfold tnH; exact hia_s _ _ _, fun a ha => by unfold tnH; exact hia_n _ _ ha⟩
theorem tp_g (h : MH) : hfi (tpH h) 273 = up1 (hfi h 273) 1 (nI 0) ∧ hia (tpH h) = hia h := ⟨by unfold tpH; exact hfi_s _ _ _, rfl⟩
theorem m_law (d f : Nat) (hf : f ≤ 6) {T : TP} {h : MH} (hM : MoS h) (hw : WDM h) (hd : HDM h) (hb : TB (hia h 282) T) (h13 : hfi h 273 13 = nI T.2) (h20 : hfi h 273 20 = nI 0) (p1 : hia h 275 1 = nI f) (Q : RT)
    (K6 : f = 6 → ∀ h', MLF h h' → hfi h' 273 0 = nI 0 → hfi h' 273 1 = -5 → hfi h' 273 13 = nI 0 → hfi h' 273 20 = nI 0 → hfi h' 273 18 = hfi h 273 18 → hia h' 275 = hia h 275 → hia h' 274 = up1 (hia h 274) 5 (hia h 274 5 + nI 1) → Q (some (.int (-5))) h')
    (KE : f < 6 → ∀ e, pTx T 0 12 0 0 = .error e → ∀ h', MLF h h' → hfi h' 273 0 = nI 0 → hfi h' 273 1 = -6 → hfi h' 273 13 = nI 0 → hfi h' 273 20 = nI 0 → hfi h' 273 18 = nI e → hia h' 275 = hia h 275 → hia h' 274 = up1 (hia h 274) 6 (hia h 274 6 + nI 1) → Q (some (.int (-6))) h')
    (KO : f < 6 → ∀ cs, pTx T 0 12 0 0 = .ok cs → ∀ h' P, MLF h h' → hfi h' 273 0 = nI 0 → hfi h' 273 1 = nI 0 → hfi h' 273 13 = nI 0 → hfi h' 273 20 = nI 0 → hfi h' 273 18 = -1 → hia h' 275 = P → TX P f (LWof cs) → P 1 = nI (f + 1) → (∀ x, x ≠ 1 → (x < 2022 + 900 * f ∨ 2022 + 900 * (f + 1) ≤ x) → P x = hia h 275 x) → hia h' 274 = hia h 274 → Q (some (.int (nI f))) h') : callD (d + 9) 190 [.ref 273] h Q := by
  obtain ⟨k8, r2, r3, r4⟩ := hM.row
  have F1 : MLF h (sFI h 273 (up1 (hfi h 273) 0 (nI 0))) := MLF_f _ (fun k hk => by rw [up1_n _ _ (by omega)])
  have f1 : ∀ k, k ≠ 0 → hfi (sFI h 273 (up1 (hfi h 273) 0 (nI 0))) 273 k = hfi h 273 k := fun k hk => by rw [hfi_s, up1_n _ _ hk]
  have f10 : hfi (sFI h 273 (up1 (hfi h 273) 0 (nI 0))) 273 0 = nI 0 := by rw [hfi_s, up1_s]
  rw [E_Mo_law]
  by_cases c6 : f = 6
  · have K6 := K6 c6
    clear KE KO
    have TN := fun (h : MH) (hM : MoS h) Q => m_tellN (d + 7) 5 (by omega) (v := -5) (by decide) (by decide) hM Q
    have F2 : MLF h (sFI h 273 (up1 (up1 (hfi h 273) 0 (nI 0)) 13 (nI 0))) := MLF_f _ (fun k hk => by rw [up1_n _ _ (by omega), up1_n _ _ (by omega)])
    have TN2 := TN (sFI h 273 (up1 (up1 (hfi h 273) 0 (nI 0)) 13 (nI 0))) hM
    obtain ⟨g1, g2, g3⟩ := tn_g (sFI h 273 (up1 (up1 (hfi h 273) 0 (nI 0)) 13 (nI 0))) (-5) 5
    rw [hfi_s] at g1
    have Y := K6 _ (F2.trans (MLF_tn _ (-5) 5)) (by rw [g1]; simp (disch := omega) only [up1_s, up1_n]) (by rw [g1, up1_s]) (by rw [g1]; simp (disch := omega) only [up1_s, up1_n]) (by rw [g1]; simp (disch := omega) only [up1_s, up1_n]; exact h20) (by rw [g1]; simp (disch := omega) only [up1_s, up1_n]) (g3 275 (by omega)) g2
    generalize tnH (sFI h 273 (up1 (up1 (hfi h 273) 0 (nI 0)) 13 (nI 0))) (-5) 5 = h9 at *
    rw [c6] at p1
    simp (disch := omega) only [U_Mo_law (cm _), SA, SB, SC1, SC2, SG, SK, SV, up1_s, k8, r2, r3, r4, p1, TN2, nI_clamp, in_eq, Nat.reduceLeDiff, eqI, true_implies, not_true_eq_false, not_false_eq_true, false_implies, true_and, and_true]
    exact Y
  · have f6 : f < 6 := by omega
    clear K6
    have ne : ¬ f = 6 := c6
    simp (disch := omega) only [UC_Mo_law_28 (cm _), SA, SB, SC1, SC2, SG, SK, SV, up1_s, k8, r2, r3, r4, p1, ne, nI_clamp, in_eq, Nat.reduceLeDiff, eqI, true_implies, not_true_eq_false, not_false_eq_true, false_implies, true_and, and_true]
    refine m_law28 d (T := T) (h := sFI h 273 (up1 (hfi h 273) 0 (nI 0))) hM hw hd hb ((f1 13 (by omega)).trans h13) _ _ ?_
    cases hp : pTx T 0 12 0 0 with
    | error e =>
      have KE := KE f6 e hp
      clear KO
      intro h2 m2 e19 e18 e13 e20
      have hM2 : MoS h2 := m2.1.2.2.2.1.M hM
      have k82 := hM2.ref.1
      have TN := fun Q => m_tellN (d + 7) 6 (by omega) (v := -6) (by decide) (by decide) hM2 Q
      obtain ⟨g1, g2, g3⟩ := tn_g h2 (-6) 6
      have m0 : hfi h2 273 0 = nI 0 := (m2.2.2.2.1 0 (by omega)).trans f10
      have i74 : hia h2 274 = hia h 274 := m2.2.2.1 274 (by omega) (by omega)
      have i75 : hia h2 275 = hia h 275 := m2.2.2.1 275 (by omega) (by omega)
      have Y := KE _ ((F1.trans m2.L).trans (MLF_tn h2 (-6) 6)) (by rw [g1, up1_n _ _ (by omega)]; exact m0) (by rw [g1, up1_s]) (by rw [g1, up1_n _ _ (by omega)]; exact e13) (by rw [g1, up1_n _ _ (by omega)]; exact e20) (by rw [g1, up1_n _ _ (by omega)]; exact e18) (by rw [g3 275 (by omega)]; exact i75) (by rw [g2, i74])
      generalize tnH h2 (-6) 6 = h9 at *
      simp (disch := omega) only [U_Mo_law (cm _), SA, SB, SC1, SC2, SG, SV, k82, e19, TN, eqI, Nat.one_ne_zero, true_implies, not_true_eq_false, not_false_eq_true, false_implies, true_and, and_true]
      exact Y
    | ok cs =>
      have KO := KO f6 cs hp
      clear KE
      obtain ⟨n1, n12⟩ := pTx_ne 12 0 0 hp
      intro h2 cf nc m2 e19 e18 e13 e20 e21 e23 ec cv hc mc
      rw [List.nil_append] at e21
      have hM2 : MoS h2 := m2.1.2.2.2.1.M hM
      obtain ⟨k82, r22, r23, r24⟩ := hM2.row
      have m0 : hfi h2 273 0 = nI 0 := (m2.2.2.2.1 0 (by omega)).trans f10
      have i74 : hia h2 274 = hia h 274 := m2.2.2.1 274 (by omega) (by omega)
      have i75 : hia h2 275 = hia h 275 := m2.2.2.1 275 (by omega) (by omega)
      have p21 : hia h2 275 1 = nI f := by rw [i75]; exact p1
      have L1 := fun (p : RW) lm Q => m_l_lw111 (d + 8) (2022 + 900 * f) cs.length (by omega) n12 hM2 e21 Q lm (8 * cs.length) 0 p (by omega)
      have L2 := fun (p : RW) lm Q => m_l_lw146 (d + 8) (2022 + 900 * f) nc (by omega) hc hM2 e23 Q lm nc 0 p (by omega)
      have R1 : cpD (cpS (up1 (hia h2 275) (2022 + 900 * f + 1) (nI cs.length)) (2022 + 900 * f + 2) (hia h2 283) 0 (8 * cs.length)) (2022 + 900 * f + 98) (hia h2 284) (hia h2 285) 0 nc 1 = nI f := by
        unfold cpD
        rw [if_neg (by omega)]
        unfold cpS
        rw [if_neg (by omega), up1_n _ _ (by omega)]; exact p21
      have TP := m_tellP (d + 7) f (by omega) (h := sIA h2 275 (lawRow (hia h2 275) f cs.length nc (hia h2 283) (hia h2 284) (hia h2 285))) hM2
      obtain ⟨g1, g2⟩ := tp_g (sIA h2 275 (lawRow (hia h2 275) f cs.length nc (hia h2 283) (hia h2 284) (hia h2 285)))
      have gf : hfi (tpH (sIA h2 275 (lawRow (hia h2 275) f cs.length nc (hia h2 283) (hia h2 284) (hia h2 285)))) 273 = up1 (hfi h2 273) 1 (nI 0) := g1
      have Y := KO _ (lawRow (hia h2 275) f cs.length nc (hia h2 283) (hia h2 284) (hia h2 285)) (((F1.trans m2.L).trans (MLF_i (Or.inr rfl) _)).trans (MLF_tp _)) (by rw [gf, up1_n _ _ (by omega)]; exact m0) (by rw [gf, up1_s]) (by rw [gf, up1_n _ _ (by omega)]; exact e13) (by rw [gf, up1_n _ _ (by omega)]; exact e20) (by rw [gf, up1_n _ _ (by omega)]; exact e18) (by rw [g2, hia_s]) (TX_of f6 n1 n12 hc cv ec (fun j x hj => mc j x hj)) (by unfold lawRow; rw [up1_s]) (fun x x1 x2 => by rw [lawRow_o n12 hc x1 x2, i75]) (by rw [g2, hia_n _ _ (by omega), i74])
      clear KO
      unfold lawRow at Y TP
      generalize tpH _ = h9 at *
      simp (disch := omega) only [U_Mo_law (cm _), SA, SB, SC1, SC2, SG, SK, SV, up1_s, k82, r22, r23, r24, e19, e21, p21, L1, L2, R1, TP, pk_mul, nI_add, pk_sub, nI_clamp, in_eq, Nat.reduceLeDiff, eqI, Nat.one_ne_zero, Nat.add_sub_cancel, true_implies, not_true_eq_false, not_false_eq_true, false_implies, true_and, and_true]
      exact Y
