/-! ===== days: the pair ===== -/
set_option maxRecDepth 20000 in
theorem UC_Mo_days_225 {G : GT} (hG : Gmono G) (R : RT) (lm : Nat × Nat) : WP cd_Mo_days G R lm 0 = stp G R lm (2, 1, 0, 0, 0, 0, []) (WP cd_Mo_days G R lm) ∧ WP cd_Mo_days G R lm 1 = stp G R lm (7, 2, 0, 0, nI 0, 0, []) (WP cd_Mo_days G R lm) ∧ WP cd_Mo_days G R lm 2 = stp G R lm (59, 5, 8, 0, 0, 0, []) (WP cd_Mo_days G R lm) ∧ WP cd_Mo_days G R lm 5 = stp G R lm (1, 6, 1, 0, 0, 0, []) (WP cd_Mo_days G R lm) ∧ WP cd_Mo_days G R lm 6 = stp G R lm (33, 7, 0, 0, 0, 0, []) (WP cd_Mo_days G R lm) ∧ WP cd_Mo_days G R lm 7 = stp G R lm (8, 8, 0, 0, 0, lN 0, []) (WP cd_Mo_days G R lm) ∧ WP cd_Mo_days G R lm 8 = stp G R lm (8, 11, 0, 0, 0, lN 1000000, []) (WP cd_Mo_days G R lm) ∧ WP cd_Mo_days G R lm 11 = stp G R lm (76, 14, 130, 3, 0, 0, []) (WP cd_Mo_days G R lm) ∧ WP cd_Mo_days G R lm 14 = stp G R lm (47, 17, 29, 0, 0, 0, []) (WP cd_Mo_days G R lm) ∧ WP cd_Mo_days G R lm 17 = stp G R lm (1, 18, 2, 0, 0, 0, []) (WP cd_Mo_days G R lm) ∧ WP cd_Mo_days G R lm 18 = stp G R lm (33, 19, 0, 0, 0, 0, []) (WP cd_Mo_days G R lm) ∧ WP cd_Mo_days G R lm 19 = stp G R lm (8, 20, 0, 0, 0, lN 1, []) (WP cd_Mo_days G R lm) ∧ WP cd_Mo_days G R lm 20 = stp G R lm (8, 23, 0, 0, 0, lN 60, []) (WP cd_Mo_days G R lm) ∧ WP cd_Mo_days G R lm 23 = stp G R lm (76, 26, 130, 3, 0, 0, []) (WP cd_Mo_days G R lm) ∧ WP cd_Mo_days G R lm 26 = stp G R lm (48, 29, 35, 0, 0, 0, []) (WP cd_Mo_days G R lm) ∧ WP cd_Mo_days G R lm 29 = stp G R lm (2, 30, 0, 0, 0, 0, []) (WP cd_Mo_days G R lm) ∧ WP cd_Mo_days G R lm 30 = stp G R lm (7, 31, 0, 0, (-1), 0, []) (WP cd_Mo_days G R lm) ∧ WP cd_Mo_days G R lm 31 = stp G R lm (86, 34, 133, 1, 0, 0, [8]) (WP cd_Mo_days G R lm) ∧ WP cd_Mo_days G R lm 34 = stp G R lm (81, 35, 0, 0, 0, 0, []) (WP cd_Mo_days G R lm) ∧ WP cd_Mo_days G R lm 35 = stp G R lm (2, 36, 0, 0, 0, 0, []) (WP cd_Mo_days G R lm) ∧ WP cd_Mo_days G R lm 36 = stp G R lm (86, 39, 241, 0, 0, 0, [8]) (WP cd_Mo_days G R lm) ∧ WP cd_Mo_days G R lm 39 = stp G R lm (4, 40, 3, 0, 0, 0, []) (WP cd_Mo_days G R lm) ∧ WP cd_Mo_days G R lm 40 = stp G R lm (2, 41, 0, 0, 0, 0, []) (WP cd_Mo_days G R lm) ∧ WP cd_Mo_days G R lm 41 = stp G R lm (1, 42, 1, 0, 0, 0, []) (WP cd_Mo_days G R lm) ∧ WP cd_Mo_days G R lm 42 = stp G R lm (33, 43, 0, 0, 0, 0, []) (WP cd_Mo_days G R lm) ∧ WP cd_Mo_days G R lm 43 = stp G R lm (60, 46, 8, 50, 0, 0, []) (WP cd_Mo_days G R lm) ∧ WP cd_Mo_days G R lm 46 = stp G R lm (7, 47, 0, 0, nI 0, 0, []) (WP cd_Mo_days G R lm) ∧ WP cd_Mo_days G R lm 47 = stp G R lm (4, 49, 4, 0, 0, 0, []) (WP cd_Mo_days G R lm) ∧ WP cd_Mo_days G R lm 51 = stp G R lm (1, 52, 2, 0, 0, 0, []) (WP cd_Mo_days G R lm) ∧ WP cd_Mo_days G R lm 52 = stp G R lm (44, 55, 135, 0, 0, 0, []) (WP cd_Mo_days G R lm) ∧ WP cd_Mo_days G R lm 55 = stp G R lm (2, 56, 0, 0, 0, 0, []) (WP cd_Mo_days G R lm) ∧ WP cd_Mo_days G R lm 56 = stp G R lm (7, 58, 0, 0, nI 7, 0, []) (WP cd_Mo_days G R lm) ∧ WP cd_Mo_days G R lm 58 = stp G R lm (86, 61, 244, 1, 0, 0, [8]) (WP cd_Mo_days G R lm) ∧ WP cd_Mo_days G R lm 61 = stp G R lm (4, 63, 5, 0, 0, 0, []) (WP cd_Mo_days G R lm) ∧ WP cd_Mo_days G R lm 63 = stp G R lm (2, 64, 0, 0, 0, 0, []) (WP cd_Mo_days G R lm) ∧ WP cd_Mo_days G R lm 64 = stp G R lm (7, 66, 0, 0, nI 7, 0, []) (WP cd_Mo_days G R lm) ∧ WP cd_Mo_days G R lm 66 = stp G R lm (86, 69, 244, 1, 0, 0, [8]) (WP cd_Mo_days G R lm) ∧ WP cd_Mo_days G R lm 69 = stp G R lm (4, 71, 6, 0, 0, 0, []) (WP cd_Mo_days G R lm) ∧ WP cd_Mo_days G R lm 71 = stp G R lm (2, 72, 0, 0, 0, 0, []) (WP cd_Mo_days G R lm) ∧ WP cd_Mo_days G R lm 72 = stp G R lm (7, 74, 0, 0, nI 12, 0, []) (WP cd_Mo_days G R lm) ∧ WP cd_Mo_days G R lm 74 = stp G R lm (86, 77, 244, 1, 0, 0, [8]) (WP cd_Mo_days G R lm) ∧ WP cd_Mo_days G R lm 77 = stp G R lm (4, 79, 7, 0, 0, 0, []) (WP cd_Mo_days G R lm) ∧ WP cd_Mo_days G R lm 79 = stp G R lm (2, 80, 0, 0, 0, 0, []) (WP cd_Mo_days G R lm) ∧ WP cd_Mo_days G R lm 80 = stp G R lm (7, 82, 0, 0, nI 8, 0, []) (WP cd_Mo_days G R lm) ∧ WP cd_Mo_days G R lm 82 = stp G R lm (86, 85, 244, 1, 0, 0, [8]) (WP cd_Mo_days G R lm) ∧ WP cd_Mo_days G R lm 85 = stp G R lm (4, 87, 8, 0, 0, 0, []) (WP cd_Mo_days G R lm) ∧ WP cd_Mo_days G R lm 87 = stp G R lm (1, 89, 8, 0, 0, 0, []) (WP cd_Mo_days G R lm) ∧ WP cd_Mo_days G R lm 89 = stp G R lm (7, 90, 0, 0, nI 2, 0, []) (WP cd_Mo_days G R lm) ∧ WP cd_Mo_days G R lm 90 = stp G R lm (44, 93, 107, 0, 0, 0, []) (WP cd_Mo_days G R lm) ∧ WP cd_Mo_days G R lm 93 = stp G R lm (2, 94, 0, 0, 0, 0, []) (WP cd_Mo_days G R lm) ∧ WP cd_Mo_days G R lm 94 = stp G R lm (1, 96, 5, 0, 0, 0, []) (WP cd_Mo_days G R lm) ∧ WP cd_Mo_days G R lm 96 = stp G R lm (1, 98, 6, 0, 0, 0, []) (WP cd_Mo_days G R lm) ∧ WP cd_Mo_days G R lm 98 = stp G R lm (1, 100, 7, 0, 0, 0, []) (WP cd_Mo_days G R lm) ∧ WP cd_Mo_days G R lm 100 = stp G R lm (86, 103, 209, 3, 0, 0, [8]) (WP cd_Mo_days G R lm) ∧ WP cd_Mo_days G R lm 103 = stp G R lm (39, 104, 0, 0, 0, 0, []) (WP cd_Mo_days G R lm) ∧ WP cd_Mo_days G R lm 104 = stp G R lm (40, 129, 0, 0, 0, 0, []) (WP cd_Mo_days G R lm) ∧ WP cd_Mo_days G R lm 107 = stp G R lm (1, 109, 8, 0, 0, 0, []) (WP cd_Mo_days G R lm) ∧ WP cd_Mo_days G R lm 109 = stp G R lm (7, 111, 0, 0, nI 7, 0, []) (WP cd_Mo_days G R lm) ∧ WP cd_Mo_days G R lm 111 = stp G R lm (44, 114, 122, 0, 0, 0, []) (WP cd_Mo_days G R lm) ∧ WP cd_Mo_days G R lm 114 = stp G R lm (2, 115, 0, 0, 0, 0, []) (WP cd_Mo_days G R lm) ∧ WP cd_Mo_days G R lm 115 = stp G R lm (86, 118, 215, 0, 0, 0, [8]) (WP cd_Mo_days G R lm) ∧ WP cd_Mo_days G R lm 118 = stp G R lm (39, 119, 0, 0, 0, 0, []) (WP cd_Mo_days G R lm) ∧ WP cd_Mo_days G R lm 119 = stp G R lm (40, 129, 0, 0, 0, 0, []) (WP cd_Mo_days G R lm) ∧ WP cd_Mo_days G R lm 122 = stp G R lm (2, 123, 0, 0, 0, 0, []) (WP cd_Mo_days G R lm) ∧ WP cd_Mo_days G R lm 123 = stp G R lm (1, 125, 5, 0, 0, 0, []) (WP cd_Mo_days G R lm) ∧ WP cd_Mo_days G R lm 125 = stp G R lm (86, 128, 217, 1, 0, 0, [8]) (WP cd_Mo_days G R lm) ∧ WP cd_Mo_days G R lm 128 = stp G R lm (39, 129, 0, 0, 0, 0, []) (WP cd_Mo_days G R lm) ∧ WP cd_Mo_days G R lm 129 = stp G R lm (11, 132, 4, 0, nI 1, 0, []) (WP cd_Mo_days G R lm) ∧ WP cd_Mo_days G R lm 132 = stp G R lm (40, 49, 0, 0, 0, 0, []) (WP cd_Mo_days G R lm) ∧ WP cd_Mo_days G R lm 135 = stp G R lm (2, 136, 0, 0, 0, 0, []) (WP cd_Mo_days G R lm) ∧ WP cd_Mo_days G R lm 136 = stp G R lm (58, 139, 8, 3, 0, 0, []) (WP cd_Mo_days G R lm) ∧ WP cd_Mo_days G R lm 139 = stp G R lm (7, 141, 0, 0, nI 6, 0, []) (WP cd_Mo_days G R lm) ∧ WP cd_Mo_days G R lm 141 = stp G R lm (62, 142, 0, 0, 0, 0, []) (WP cd_Mo_days G R lm) ∧ WP cd_Mo_days G R lm 142 = stp G R lm (4, 144, 4, 0, 0, 0, []) (WP cd_Mo_days G R lm) ∧ WP cd_Mo_days G R lm 144 = stp G R lm (7, 145, 0, 0, nI 0, 0, []) (WP cd_Mo_days G R lm) ∧ WP cd_Mo_days G R lm 145 = stp G R lm (4, 147, 5, 0, 0, 0, []) (WP cd_Mo_days G R lm) ∧ WP cd_Mo_days G R lm 149 = stp G R lm (7, 151, 0, 0, nI 7, 0, []) (WP cd_Mo_days G R lm) ∧ WP cd_Mo_days G R lm 151 = stp G R lm (44, 154, 225, 0, 0, 0, []) (WP cd_Mo_days G R lm) ∧ WP cd_Mo_days G R lm 154 = stp G R lm (2, 155, 0, 0, 0, 0, []) (WP cd_Mo_days G R lm) ∧ WP cd_Mo_days G R lm 155 = stp G R lm (58, 158, 8, 51, 0, 0, []) (WP cd_Mo_days G R lm) ∧ WP cd_Mo_days G R lm 158 = stp G R lm (7, 159, 0, 0, nI 3, 0, []) (WP cd_Mo_days G R lm) ∧ WP cd_Mo_days G R lm 159 = stp G R lm (1, 161, 5, 0, 0, 0, []) (WP cd_Mo_days G R lm) ∧ WP cd_Mo_days G R lm 161 = stp G R lm (14, 162, 0, 0, 0, 0, []) (WP cd_Mo_days G R lm) ∧ WP cd_Mo_days G R lm 162 = stp G R lm (2, 163, 0, 0, 0, 0, []) (WP cd_Mo_days G R lm) ∧ WP cd_Mo_days G R lm 163 = stp G R lm (58, 166, 8, 3, 0, 0, []) (WP cd_Mo_days G R lm) ∧ WP cd_Mo_days G R lm 166 = stp G R lm (1, 168, 5, 0, 0, 0, []) (WP cd_Mo_days G R lm) ∧ WP cd_Mo_days G R lm 168 = stp G R lm (76, 171, 142, 1, 0, 0, []) (WP cd_Mo_days G R lm) ∧ WP cd_Mo_days G R lm 171 = stp G R lm (62, 172, 0, 0, 0, 0, []) (WP cd_Mo_days G R lm) ∧ WP cd_Mo_days G R lm 172 = stp G R lm (66, 173, 0, 0, 0, 0, []) (WP cd_Mo_days G R lm) ∧ WP cd_Mo_days G R lm 173 = stp G R lm (2, 174, 0, 0, 0, 0, []) (WP cd_Mo_days G R lm) ∧ WP cd_Mo_days G R lm 174 = stp G R lm (58, 177, 8, 51, 0, 0, []) (WP cd_Mo_days G R lm) ∧ WP cd_Mo_days G R lm 177 = stp G R lm (7, 178, 0, 0, nI 3, 0, []) (WP cd_Mo_days G R lm) ∧ WP cd_Mo_days G R lm 178 = stp G R lm (1, 180, 5, 0, 0, 0, []) (WP cd_Mo_days G R lm) ∧ WP cd_Mo_days G R lm 180 = stp G R lm (14, 181, 0, 0, 0, 0, []) (WP cd_Mo_days G R lm) ∧ WP cd_Mo_days G R lm 181 = stp G R lm (7, 182, 0, 0, nI 1, 0, []) (WP cd_Mo_days G R lm) ∧ WP cd_Mo_days G R lm 182 = stp G R lm (12, 183, 0, 0, 0, 0, []) (WP cd_Mo_days G R lm) ∧ WP cd_Mo_days G R lm 183 = stp G R lm (2, 184, 0, 0, 0, 0, []) (WP cd_Mo_days G R lm) ∧ WP cd_Mo_days G R lm 184 = stp G R lm (58, 187, 8, 3, 0, 0, []) (WP cd_Mo_days G R lm) ∧ WP cd_Mo_days G R lm 187 = stp G R lm (1, 189, 5, 0, 0, 0, []) (WP cd_Mo_days G R lm) ∧ WP cd_Mo_days G R lm 189 = stp G R lm (76, 192, 142, 1, 0, 0, []) (WP cd_Mo_days G R lm) ∧ WP cd_Mo_days G R lm 192 = stp G R lm (7, 193, 0, 0, nI 3, 0, []) (WP cd_Mo_days G R lm) ∧ WP cd_Mo_days G R lm 193 = stp G R lm (12, 194, 0, 0, 0, 0, []) (WP cd_Mo_days G R lm) ∧ WP cd_Mo_days G R lm 194 = stp G R lm (62, 195, 0, 0, 0, 0, []) (WP cd_Mo_days G R lm) ∧ WP cd_Mo_days G R lm 195 = stp G R lm (66, 196, 0, 0, 0, 0, []) (WP cd_Mo_days G R lm) ∧ WP cd_Mo_days G R lm 196 = stp G R lm (2, 197, 0, 0, 0, 0, []) (WP cd_Mo_days G R lm) ∧ WP cd_Mo_days G R lm 197 = stp G R lm (58, 200, 8, 51, 0, 0, []) (WP cd_Mo_days G R lm) ∧ WP cd_Mo_days G R lm 200 = stp G R lm (7, 201, 0, 0, nI 3, 0, []) (WP cd_Mo_days G R lm) ∧ WP cd_Mo_days G R lm 201 = stp G R lm (1, 203, 5, 0, 0, 0, []) (WP cd_Mo_days G R lm) ∧ WP cd_Mo_days G R lm 203 = stp G R lm (14, 204, 0, 0, 0, 0, []) (WP cd_Mo_days G R lm) ∧ WP cd_Mo_days G R lm 204 = stp G R lm (7, 205, 0, 0, nI 2, 0, []) (WP cd_Mo_days G R lm) ∧ WP cd_Mo_days G R lm 205 = stp G R lm (12, 206, 0, 0, 0, 0, []) (WP cd_Mo_days G R lm) ∧ WP cd_Mo_days G R lm 206 = stp G R lm (2, 207, 0, 0, 0, 0, []) (WP cd_Mo_days G R lm) ∧ WP cd_Mo_days G R lm 207 = stp G R lm (58, 210, 8, 3, 0, 0, []) (WP cd_Mo_days G R lm) ∧ WP cd_Mo_days G R lm 210 = stp G R lm (1, 212, 5, 0, 0, 0, []) (WP cd_Mo_days G R lm) ∧ WP cd_Mo_days G R lm 212 = stp G R lm (76, 215, 142, 1, 0, 0, []) (WP cd_Mo_days G R lm) ∧ WP cd_Mo_days G R lm 215 = stp G R lm (7, 216, 0, 0, nI 2, 0, []) (WP cd_Mo_days G R lm) ∧ WP cd_Mo_days G R lm 216 = stp G R lm (12, 217, 0, 0, 0, 0, []) (WP cd_Mo_days G R lm) ∧ WP cd_Mo_days G R lm 217 = stp G R lm (62, 218, 0, 0, 0, 0, []) (WP cd_Mo_days G R lm) ∧ WP cd_Mo_days G R lm 218 = stp G R lm (66, 219, 0, 0, 0, 0, []) (WP cd_Mo_days G R lm) ∧ WP cd_Mo_days G R lm 219 = stp G R lm (11, 222, 5, 0, nI 1, 0, []) (WP cd_Mo_days G R lm) ∧ WP cd_Mo_days G R lm 222 = stp G R lm (40, 147, 0, 0, 0, 0, []) (WP cd_Mo_days G R lm) ∧ WP cd_Mo_days G R lm 226 = stp G R lm (7, 227, 0, 0, nI 1, 0, []) (WP cd_Mo_days G R lm) ∧ WP cd_Mo_days G R lm 227 = stp G R lm (85, 230, 8, 52, 0, 0, []) (WP cd_Mo_days G R lm) ∧ WP cd_Mo_days G R lm 230 = stp G R lm (2, 231, 0, 0, 0, 0, []) (WP cd_Mo_days G R lm) ∧ WP cd_Mo_days G R lm 231 = stp G R lm (1, 232, 3, 0, 0, 0, []) (WP cd_Mo_days G R lm) ∧ WP cd_Mo_days G R lm 232 = stp G R lm (86, 235, 242, 1, 0, 0, [8]) (WP cd_Mo_days G R lm) ∧ WP cd_Mo_days G R lm 235 = stp G R lm (2, 236, 0, 0, 0, 0, []) (WP cd_Mo_days G R lm) ∧ WP cd_Mo_days G R lm 236 = stp G R lm (1, 238, 4, 0, 0, 0, []) (WP cd_Mo_days G R lm) ∧ WP cd_Mo_days G R lm 238 = stp G R lm (86, 241, 133, 1, 0, 0, [8]) (WP cd_Mo_days G R lm) ∧ WP cd_Mo_days G R lm 241 = stp G R lm (81, 242, 0, 0, 0, 0, []) (WP cd_Mo_days G R lm) := ⟨WP_eq hG rfl, WP_eq hG rfl, WP_eq hG rfl, WP_eq hG rfl, WP_eq hG rfl, WP_eq hG rfl, WP_eq hG rfl, WP_eq hG rfl, WP_eq hG rfl, WP_eq hG rfl, WP_eq hG rfl, WP_eq hG rfl, WP_eq hG rfl, WP_eq hG rfl, WP_eq hG rfl, WP_eq hG rfl, WP_eq hG rfl, WP_eq hG rfl, WP_eq hG rfl, WP_eq hG rfl, WP_eq hG rfl, WP_eq hG rfl, WP_eq hG rfl, WP_eq hG rfl, WP_eq hG rfl, WP_eq hG rfl, WP_eq hG rfl, WP_eq hG rfl, WP_eq hG rfl, WP_eq hG rfl, WP_eq hG rfl, WP_eq hG rfl, WP_eq hG rfl, WP_eq hG rfl, WP_eq hG rfl, WP_eq hG rfl, WP_eq hG rfl, WP_eq hG rfl, WP_eq hG rfl, WP_eq hG rfl, WP_eq hG rfl, WP_eq hG rfl, WP_eq hG rfl, WP_eq hG rfl, WP_eq hG rfl, WP_eq hG rfl, WP_eq hG rfl, WP_eq hG rfl, WP_eq hG rfl, WP_eq hG rfl, WP_eq hG rfl, WP_eq hG rfl, WP_eq hG rfl, WP_eq hG rfl, WP_eq hG rfl, WP_eq hG rfl, WP_eq hG rfl, WP_eq hG rfl, WP_eq hG rfl, WP_eq hG rfl, WP_eq hG rfl, WP_eq hG rfl, WP_eq hG rfl, WP_eq hG rfl, WP_eq hG rfl, WP_eq hG rfl, WP_eq hG rfl, WP_eq hG rfl, WP_eq hG rfl, WP_eq hG rfl, WP_eq hG rfl, WP_eq hG rfl, WP_eq hG rfl, WP_eq hG rfl, WP_eq hG rfl, WP_eq hG rfl, WP_eq hG rfl, WP_eq hG rfl, WP_eq hG rfl, WP_eq hG rfl, WP_eq hG rfl, WP_eq hG rfl, WP_eq hG rfl, WP_eq hG rfl, WP_eq hG rfl, WP_eq hG rfl, WP_eq hG rfl, WP_eq hG rfl, WP_eq hG rfl, WP_eq hG rfl, WP_eq hG rfl, WP_eq hG rfl, WP_eq hG rfl, WP_eq hG rfl, WP_eq hG rfl, WP_eq hG rfl, WP_eq hG rfl, WP_eq hG rfl, WP_eq hG rfl, WP_eq hG rfl, WP_eq hG rfl, WP_eq hG rfl, WP_eq hG rfl, WP_eq hG rfl, WP_eq hG rfl, WP_eq hG rfl, WP_eq hG rfl, WP_eq hG rfl, WP_eq hG rfl, WP_eq hG rfl, WP_eq hG rfl, WP_eq hG rfl, WP_eq hG rfl, WP_eq hG rfl, WP_eq hG rfl, WP_eq hG rfl, WP_eq hG rfl, WP_eq hG rfl, WP_eq hG rfl, WP_eq hG rfl, WP_eq hG rfl, WP_eq hG rfl, WP_eq hG rfl, WP_eq hG rfl, WP_eq hG rfl, WP_eq hG rfl, WP_eq hG rfl, WP_eq hG rfl, WP_eq hG rfl, WP_eq hG rfl⟩
theorem GI_day {h hF : MH} {nx n : Nat} {q : RW} (g : GI h) (r : RgV h nx n) (S : hsz hF = hsz h ∧ hcc hF = hcc h ∧ hcu hF = hcu h ∧ SHE h hF) (J : ∀ a, (288 ≤ a ∧ a ≤ 290) ∨ a = 297 → hja hF a = hja h a) (F : ∀ a, a ≠ 24 → a ≠ 231 → a ≠ 273 → a ≠ 43 + 10 * nx → hfi hF a = hfi h a) (F24 : ∀ k, k ≠ 8 → k ≠ 13 → hfi hF 24 k = hfi h 24 k) (f8 : hfi hF 24 8 = nI 1) (f13 : hfi hF 24 13 = nI 0) (F273 : ∀ k, k ≠ 0 → k ≠ 1 → k ≠ 34 → k ≠ 38 → k ≠ 52 → hfi hF 273 k = hfi h 273 k) (m1 : hfi hF 273 1 = nI 0) (m52 : hfi hF 273 52 = nI 1) (C : ∀ a, ¬ scr a → a ≠ 275 → a ≠ 279 → a ≠ 299 → (a ≤ 231 ∨ 240 < a) → (a ≤ 43 + 10 * nx ∨ 43 + 10 * nx + 9 < a) → hia hF a = hia h a) (R : ∀ j, j < 1754 ∨ 2010 ≤ j → hia hF 275 j = hia h 275 j) (U : ∀ x, x < 27984 → hia hF 278 x = hia h 278 x) (O : ∀ j, j < 16 → hia hF 279 j = hia h 279 j) (V : NeV hF 231 q) (iv : IV q) (D : ∀ r, r < 7 → hia hF 299 (3 * r) = gR q r 0 ∧ hia hF 299 (3 * r + 1) = gR q r 3 ∧ hia hF 299 (3 * r + 2) = gR q r 2) : Pst h hF := by
  obtain ⟨S1, S2, S3, S4⟩ := S
  obtain ⟨g1, ⟨g2, g3, g4⟩, g5, g6, -, g8, g9, ⟨T, g10⟩, g11⟩ := g
  have rl := r.1
  have C2 : ∀ a, 240 < a → ¬ scr a → a ≠ 275 → a ≠ 279 → a ≠ 299 → hia hF a = hia h a := fun a y1 y2 y3 y4 y5 => C a y2 y3 y4 y5 (by omega) (by omega)
  have F2 : ∀ a, 231 < a → a ≠ 273 → hfi hF a = hfi h a := fun a y1 y2 => F a (by omega) (by omega) y2 (by omega)
  have CL : ∀ a, a ≤ 42 → hia hF a = hia h a := fun a y => C a (scr_n (by omega)) (by omega) (by omega) (by omega) (by omega) (by omega)
  have FL : ∀ a, a ≤ 42 → a ≠ 24 → hfi hF a = hfi h a := fun a y z => F a z (by omega) (by omega) (by omega)
  have X : ∀ x, 300 ≤ x → x < hsz h → hkd hF x = hkd h x ∧ hln hF x = hln h x ∧ hfr hF x = hfr h x ∧ hfi hF x = hfi h x ∧ hia hF x = hia h x := fun x h1 _ => ⟨by rw [S4.1], by rw [S4.2.1], by rw [S4.2.2.1], F2 x (by omega) (by omega), C2 x (by omega) (scr_n (by omega)) (by omega) (by omega) (by omega)⟩
  refine Pst_e ⟨XS_e S4 g1, ⟨S4.M g2, WDM_a J g3, HDM_a J g4⟩, by omega, ?_, ⟨nx, n, ?_⟩, ?_, ?_, ⟨T, ?_⟩, ?_⟩ ⟨⟨S1, S2, S3, S4⟩, CL 0 (by omega)⟩
  · obtain ⟨-, -, ⟨w4, w5, w6, w7, w8⟩, -, ⟨ns, n1, n2, n3⟩, ⟨md, m1', m2⟩, ⟨sl, s1, s2⟩⟩ := id g6
    refine WV_mk (by omega) (FL 26 (by omega) (by omega)) (fun a y1 y2 => CL a (by omega)) (by rw [S4.2.2.2]) X g6 (fun y _ h2 => R y (by omega)) (fun y h1 => R y (by omega)) (R 1 (by omega)) (fun nl _ _ z => by rw [R 2 (by omega)]; exact z) ?_ ⟨ns, n1, (R 0 (by omega)).trans n2, fun i hi => ?_⟩ ⟨md, m1', (R 4 (by omega)).trans m2⟩ ⟨sl, s1, (R 3 (by omega)).trans s2⟩
    · rw [FL 25 (by omega) (by omega), R 0 (by omega), R 1 (by omega), R 2 (by omega), R 3 (by omega), R 4 (by omega)]
      exact ⟨w4, w5, w6, w7, w8⟩
    · rw [CL (25 + 12) (by omega), CL (25 + 13) (by omega), R _ (by omega), R _ (by omega)]
      exact n3 i hi
  · refine RgV_k2 (FL 40 (by omega) (by omega)) (F273 8 (by omega) (by omega) (by omega) (by omega) (by omega)) (fun i hi ne => ⟨F _ (by omega) (by omega) (by omega) (by omega), fun a y1 y2 => C a (scr_n (by omega)) (by omega) (by omega) (by omega) (by omega) (by omega)⟩) (CL 42 (by omega)) O U r
  · refine ImV_a (by omega) (F24 2 (by omega) (by omega)) (fun W hW => ⟨F2 W (by omega) (by omega), F2 (W + 1) (by omega) (by omega), by rw [S4.2.2.2]⟩) (fun a y1 y2 => C2 a (by omega) (scr_n (by omega)) (by omega) (by omega) (by omega)) X (C2 276 (by omega) (scr_n (by omega)) (by omega) (by omega) (by omega)) (C2 277 (by omega) (scr_n (by omega)) (by omega) (by omega) (by omega)) g8
  · exact CtV_v (nI 0) g9 (C2 244 (by omega) (scr_n (by omega)) (by omega) (by omega) (by omega)) (C2 274 (by omega) (scr_n (by omega)) (by omega) (by omega) (by omega)) f13 m1 (fun k hk => F24 k (by omega) (by omega)) (by rw [F 213 (by omega) (by omega) (by omega) (by omega)]) (fun k hk => F273 k (by omega) (by omega) (by omega) (by omega) (by omega))
  · unfold TpV at *
    rw [C 215 (scr_n (by omega)) (by omega) (by omega) (by omega) (by omega) (by omega), C2 282 (by omega) (scr_n (by omega)) (by omega) (by omega) (by omega), F 214 (by omega) (by omega) (by omega) (by omega), F273 13 (by omega) (by omega) (by omega) (by omega) (by omega)]
    exact g10
  · obtain ⟨⟨s1, s2, s3⟩, -⟩ := g11
    exact ⟨⟨by rw [S4.1]; exact s1, by rw [S4.2.1]; exact s2, by rw [CL 1 (by omega)]; exact s3⟩, 1, by omega, f8, m52, fun _ => ⟨q, V, iv, D⟩⟩
def DrV (f : Nat → Int32) (q : RW) (n : Nat) : Prop := ∀ r, r < n → f (3 * r) = gR q r 0 ∧ f (3 * r + 1) = gR q r 3 ∧ f (3 * r + 2) = gR q r 2
theorem m_l_drw (d : Nat) {H : MH} {q : RW} (hM : MoS H) (hp : hia H 275 = q) (sd nd had its : Int32) (w6 w7 w8 : Option Value) (Q : RT) (lm : Nat × Nat) (K : ∀ f w5, DrV f q 7 → WP cd_Mo_days (callD (d + 1)) Q lm 225 [] [some (.ref 273), some (.int sd), some (.int nd), some (.int had), some (.int its), w5, w6, w7, w8] (sIA H 299 f)) : ∀ (m k : Nat) (f : Nat → Int32), k + m = 7 → DrV f q k → WP cd_Mo_days (callD (d + 1)) Q lm 147 [] [some (.ref 273), some (.int sd), some (.int nd), some (.int had), some (.int its), some (.int (nI k)), w6, w7, w8] (sIA H 299 f)
  | 0, k, f, e, hf => by
    obtain rfl : k = 7 := by omega
    have Y := K f (some (.int (nI 7))) hf
    rw [U_Mo_days_147 (cm _)]
    simp (disch := omega) only [UC_Mo_days_225 (cm _), SA, SB, SC1, SC2, SG, SK, SV, leI, Nat.le_refl, true_or, or_true, true_implies, not_true_eq_false, not_false_eq_true, false_implies, true_and, and_true]
    exact Y
  | m + 1, k, f, e, hf => by
    obtain ⟨k8, r2, r3, r4⟩ := hM.row
    obtain ⟨s1, s2, s3⟩ := hM.a299
    have RA := fun h Q => e_routerAt d k (by omega) h Q
    have z0 : hia H 275 (105 + 7 * k) = gR q k 0 := by rw [hp]; rfl
    have z3 : hia H 275 (105 + 7 * k + 3) = gR q k 3 := by rw [hp]; rfl
    have z2 : hia H 275 (105 + 7 * k + 2) = gR q k 2 := by rw [hp]; rfl
    have ih := m_l_drw d hM hp sd nd had its w6 w7 w8 Q lm K m (k + 1) (up1 (up1 (up1 f (3 * k) (gR q k 0)) (3 * k + 1) (gR q k 3)) (3 * k + 2) (gR q k 2)) (by omega) (fun r hr => by
      by_cases c : r = k
      · subst c
        exact ⟨by rw [up1_n _ _ (by omega), up1_n _ _ (by omega), up1_s], by rw [up1_n _ _ (by omega), up1_s], by rw [up1_s]⟩
      · obtain ⟨y1, y2, y3⟩ := hf r (by omega)
        exact ⟨by rw [up1_n _ _ (by omega), up1_n _ _ (by omega), up1_n _ _ (by omega)]; exact y1, by rw [up1_n _ _ (by omega), up1_n _ _ (by omega), up1_n _ _ (by omega)]; exact y2, by rw [up1_n _ _ (by omega), up1_n _ _ (by omega), up1_n _ _ (by omega)]; exact y3⟩)
    rw [U_Mo_days_147 (cm _)]
    simp (disch := omega) only [UC_Mo_days_225 (cm _), SA, SB, SC1, SC2, SG, SK, SV, k8, r2, r3, r4, s1, s2, s3, RA, z0, z3, z2, up1_s, up1_n, leI, show ¬ 7 ≤ k by omega, pk_mul, nI_add, nI_clamp, in_eq, Nat.reduceLeDiff, true_or, or_true, true_implies, not_true_eq_false, not_false_eq_true, false_implies, true_and, and_true]
    exact ih
theorem op_days (sI nI' : Int32) : PairOp 11 107 245 [.int sI, .int nI'] := fun d h g => by
  have s := g.1
  have so := (s).1
  unfold XSo at so
  have sw := WoS_25 (s)
  unfold WoS at sw
  simp only [Nat.reduceAdd] at sw
  have I1 := fun h Q => e_in (d + 9) sI.toInt64 (lN 0) (lN 1000000) h Q
  have I2 := fun h Q => e_in (d + 9) nI'.toInt64 (lN 1) (lN 60) h Q
  have q1 := i2l_r sI 1000000 (by omega)
  have q2 := i2l_rr nI' 1 60 (by omega) (by omega)
  by_cases c : rgI sI 1000000 ∧ (nI 1 ≤ nI' ∧ nI' ≤ nI 60)
  · obtain ⟨c1, c2⟩ := c
    rw [b01_t (by rw [q1]; exact c1)] at I1
    rw [b01_t (by rw [q2]; exact c2)] at I2
    obtain ⟨sd, hsd, rfl⟩ := rg_n (by omega) c1
    obtain ⟨nd, hnd, rfl⟩ := rg_n (m := 60) (by omega) ⟨Int32.le_trans (show nI 0 ≤ nI 1 by decide) c2.1, c2.2⟩
    have n1 : 1 ≤ nd := by have := c2.1; rw [leI (by omega) (by omega)] at this; exact this
    obtain ⟨Lo, lv, l, fo⟩ := WV_law g.2.2.2.1
    obtain ⟨V, iv, -, -, -, rn, -⟩ := g.2.2.2.1
    obtain ⟨nx, n, r⟩ := g.2.2.2.2.1
    have rl := r.1
    have hS := s.2.2.2.2.2.1
    have k231 := hS.2.2.1.1
    rw [E_Di_days]
    simp (disch := omega) only [UC_Di_days_173 (cm _), SA, SB, SC1, SC2, SG, SK, SV, so, sw, k231, ltI, leI, Nat.not_lt_zero, show ¬ 1000000 < sd by omega, show ¬ nd < 1 by omega, hnd, true_or, or_true, true_implies, not_true_eq_false, not_false_eq_true, false_implies, true_and, and_true]
    refine y_copies (d + 9) 26 231 (by omega) hS.1 V hS.2.2.1 (QL_mono iv.q (by omega)) _ (fun h1 X => ?_)
    obtain ⟨xf, xs, xv⟩ := X
    have s1 := XS_e xf.e s
    have k71 := s1.1.1
    obtain ⟨-, a2, -, a4, a5⟩ := fi_g h1 24 (up1 (hfi h1 24) 8 (nI 1))
    have as := she_fi h1 24 (up1 (hfi h1 24) 8 (nI 1))
    generalize ha : sFI h1 24 (up1 (hfi h1 24) 8 (nI 1)) = h2 at *
    have s2 := XS_e as.1.2.2.2 s1
    have F2 : ∀ a, a ≠ 24 → a ≠ 231 → hfi h2 a = hfi h a := fun a y1 y2 => by rw [a5 a y1, xf.2.1 a y2]
    have C2 : ∀ a, (a ≤ 231 ∨ 240 < a) → hia h2 a = hia h a := fun a y => by rw [a2, xf.2.2 a y]
    have SH2 : SHE h h2 := xf.e.trans as.1.2.2.2
    have l2 := LV_e SH2 (F2 25 (by omega) (by omega)) (fun a ha => ⟨F2 a (by omega) (by omega), C2 a (by omega)⟩) l
    simp (disch := omega) only [UC_Di_days_173 (cm _), SA, SB, SC1, SC2, SG, SK, SV, k71, ha, eqI, eq_self, Nat.one_ne_zero, Nat.reduceLeDiff, true_or, or_true, true_implies, not_true_eq_false, not_false_eq_true, false_implies, true_and, and_true]
    have V2 : NeV h2 231 (hia h 275) := NeV_a (a5 231 (by omega)) (fun a _ _ => by rw [a2]) xv
    refine x_l_day (d + 3) nx n nd hnd r.1 r.2.1 s2 l2 (by rw [F2 40 (by omega) (by omega)]; exact r.2.2.1) (by rw [F2 40 (by omega) (by omega)]; exact r.2.2.2.1) (nI sd) _ _ nd 0 h2 (hia h 275, sd) none none none none (by omega) (AR.refl 231 nx h2) rfl rfl V2 iv (fun _ _ => rfl) (by show sd < 1000003; omega) (fun h3 w3 w4 w5 w6 w7 w8 ar e40 e42 V3 => ?_)
    obtain ⟨ivq, loq⟩ := dyL_ok (Lo := Lo) nd (hia h 275, sd) iv
    have loq : LO (hia h 275) (dyL Lo nd (hia h 275, sd)).1 := loq
    generalize hq : (dyL Lo nd (hia h 275, sd)).1 = q at *
    have qb := ivq.q.2
    have s3 := XS_e ar.1.2.2.2.1 s2
    have so3 := s3.1
    unfold XSo at so3
    have k2313 := s3.2.2.2.2.2.1.2.2.1.1
    have w9 : hfi h3 231 9 = nI (ql q) := V3.2.2.2.2.2.2.2.2.2.1.trans ivq.q.1
    have W := fun Q => x_went (d + 9) (nI (ql q)) s3 Q
    have xw := X2_w h3
    have xwi := (xw_g h3).1
    generalize xwH h3 = h4 at *
    simp (disch := omega) only [U_Di_days (cm _), SA, SB, SC1, SC2, SG, SK, SV, so3, k2313, w9, W, true_or, or_true, true_implies, not_true_eq_false, not_false_eq_true, false_implies, true_and, and_true]
    refine ⟨_, rfl, ?_⟩
    have M4 := xw.1.2.2.2.M (ar.1.2.2.2.1.M (SH2.M g.2.1.1))
    have k84 := M4.1
    obtain ⟨M5', ei5, ef5, kp5⟩ := thM M4
    have t3 : ∀ a, a ≠ 273 → hfi (thH h4) a = hfi h4 a := fun a ha => by unfold thH; exact hfi_nn _ _ ha
    have t4 : hja (thH h4) = hja h4 := (she_fi _ _ _).2
    generalize hh : thH h4 = h5 at *
    unfold thH at hh
    have k85 := M5'.1
    have f273 : ∀ k, k ≠ 0 → hfi h5 273 k = hfi h 273 k := fun k hk => by rw [ef5 k hk, xw.2.1 273 (by omega), ar.2.1 273 (by omega) (by omega) (by omega), F2 273 (by omega) (by omega)]
    have I5 : ∀ a, (a ≤ 231 ∨ 240 < a) → (a ≤ 43 + 10 * nx ∨ 43 + 10 * nx + 9 < a) → a ≠ 219 → a ≠ 220 → a ≠ 42 → hia h5 a = hia h a := fun a y1 y2 y3 y4 y5 => by rw [ei5, xwi, ar.2.2 a y1 y2 y3 y4 y5, C2 a y1]
    have I5' : hia h5 42 = hia h 42 := by rw [ei5, xwi, e42, C2 42 (by omega)]
    have e8 : hfi h5 273 8 = nI n := (f273 8 (by omega)).trans r.2.2.2.2.1
    rw [E_Mo_days]
    simp (disch := omega) only [UC_Mo_days_135 (cm _), SA, SB, SC1, SC2, SG, SK, SV, hh, k84, k85, I1, I2, eqI, eq_self, Nat.one_ne_zero, true_or, or_true, true_implies, not_true_eq_false, not_false_eq_true, false_implies, true_and, and_true]
    refine m_keepOrders (d + 8) M5' _ (fun h6 ko => ?_)
    rw [e8]
    obtain ⟨⟨o1, o2⟩, o3, o4, o5, o6, o7, o8⟩ := ko
    have M6 := o1.2.2.2.M M5'
    have k86 := M6.1
    obtain ⟨⟨b1, b2⟩, b3, b4, b5⟩ := dj_g h6 sd
    generalize hb : djH h6 sd = h7 at *
    unfold djH at hb
    have M7' := b1.2.2.2.M M6
    simp (disch := omega) only [UC_Mo_days_135 (cm _), SA, SB, SC1, SC2, SG, SK, SV, k86, i2l_n, hb, Nat.reduceLeDiff, true_or, or_true, true_implies, not_true_eq_false, not_false_eq_true, false_implies, true_and, and_true]
    refine m_l_day d nd hnd M7' (by rw [b3, o3, f273 20 (by omega)]; exact g.2.2.2.2.2.2.1.2.2.2.2.2) (nI sd) (nI n) _ _ nd 0 h7 (hia h 275, sd) none none none none (by omega) (MFy.refl 8 h7) (fun _ _ _ => rfl) (by rw [b4, o4 275 (by omega) (by omega) (by omega)]; exact I5 275 (by omega) (by omega) (by omega) (by omega) (by omega)) b5 ⟨n, r.2.1, by rw [b3, o3]; exact e8⟩ iv fo rn (by show sd < 1000003; omega) (fun h8 w4 w5 w6 w7 w8 mf us hp8 => ?_)
    rw [hq] at hp8
    have M8 := mf.1.2.2.2.M M7'
    obtain ⟨k88, u2, u3, u4⟩ := M8.row
    have p6 : hia h8 275 6 = nI (ql q) := by rw [hp8]; exact ivq.q.1
    simp (disch := omega) only [UC_Mo_days_225 (cm _), SA, SB, SC1, SC2, SG, SK, SV, k88, u2, u3, u4, p6, nI_clamp, in_eq, Nat.reduceLeDiff, true_or, or_true, true_implies, not_true_eq_false, not_false_eq_true, false_implies, true_and, and_true]
    have LD := fun Q lm w6 w7 w8 K => m_l_drw (d + 9) M8 hp8 (nI sd) (nI nd) (nI n) (nI (ql q)) w6 w7 w8 Q lm K 7 0 (hia h8 299) (by omega) (fun r hr => absurd hr (Nat.not_lt_zero r))
    rw [sIA_id] at LD
    refine LD _ _ _ _ _ (fun f w5 hf => ?_)
    clear LD
    obtain ⟨-, c2', -, c4, c5⟩ := ia_g h8 299 f
    have cs := she_ia h8 299 f
    generalize sIA h8 299 f = h9 at *
    have M9 := cs.1.2.2.2.M M8
    have k89 := M9.1
    obtain ⟨-, e2, -, e4, e5⟩ := fi_g h9 273 (up1 (hfi h9 273) 52 (nI 1))
    have es := she_fi h9 273 (up1 (hfi h9 273) 52 (nI 1))
    generalize he : sFI h9 273 (up1 (hfi h9 273) 52 (nI 1)) = h10 at *
    have M10 := es.1.2.2.2.M M9
    have k810 := M10.1
    simp (disch := omega) only [U_Mo_days (cm _), SA, SB, SC1, SC2, SG, SK, SV, k89, he, k810, eqI, eq_self, Nat.one_ne_zero, Nat.reduceLeDiff, true_or, or_true, true_implies, not_true_eq_false, not_false_eq_true, false_implies, true_and, and_true]
    refine m_giveBack (d + 8) (nI n) M10 _ (fun h11 gb => ?_)
    obtain ⟨⟨v1, v2⟩, v3, v4, v5, v6, v7, v8, v9⟩ := gb
    have M11 := v1.2.2.2.M M10
    have k811 := M11.1
    have TP := fun Q => m_tellP (d + 9) (ql q) (by omega) M11 Q
    have m5 := M5_w h11
    have tpi := (tp_g h11).2
    generalize tpH h11 = h12 at *
    simp (disch := omega) only [U_Mo_days (cm _), SA, SB, SC1, SC2, SG, SK, SV, k811, TP, true_or, or_true, true_implies, not_true_eq_false, not_false_eq_true, false_implies, true_and, and_true]
    have SS : SHE h h12 := (((((((((SH2.trans ar.1.2.2.2.1).trans xw.1.2.2.2).trans kp5.1.2.2.2).trans o1.2.2.2).trans b1.2.2.2).trans mf.1.2.2.2).trans cs.1.2.2.2).trans es.1.2.2.2).trans v1.2.2.2).trans m5.1.2.2.2
    have FA : ∀ a, a ≠ 273 → hfi h12 a = hfi h4 a := fun a y => by rw [m5.2.1 a y, v3 a y, e5 a y, c2', mf.2.1 a y, b3, o3, t3 a y]
    have f24 : hfi h12 24 = up1 (up1 (hfi h 24) 8 (nI 1)) 13 (nI 0) := by rw [FA 24 (by omega), xw.2.2.1, ar.2.1 24 (by omega) (by omega) (by omega), a4, xf.2.1 24 (by omega)]
    have g273 : ∀ k, k ≠ 1 → hfi h12 273 k = up1 (hfi h10 273) 8 (nI n) k := fun k hk => by rw [m5.2.2.1, up1_n _ _ hk, v4]
    have M82 : ∀ k, k ≠ 8 → k ≠ 34 → k ≠ 38 → k ≠ 0 → hfi h8 273 k = hfi h 273 k := fun k y1 y2 y3 y4 => by rw [mf.2.2.1 k y1 y2 y3 y1, b3, o3, f273 k y4]
    have IL : ∀ a, a ≠ 275 → a ≠ 278 → a ≠ 279 → a ≠ 280 → a ≠ 281 → a ≠ 299 → hia h12 a = hia h5 a := fun a y1 y2 y3 y4 y5 y6 => by rw [tpi, v5 a y1 y2 y3, e2, c5 a y6, mf.2.2.2.1 a y1 y2 y3, b4, o4 a y2 y4 y5]
    have s278 : ∀ x, 27984 ≤ x → x < 31482 → hia h10 278 x = hia h6 278 x := fun x y1 y2 => by rw [e2, c5 278 (by omega), us x y1 y2, b4]
    have row : ∀ j, j < 1754 ∨ 2010 ≤ j → hia h12 275 j = hia h 275 j := fun j hj => by
      rw [tpi]
      by_cases z : 5 ≤ j ∧ j < 1754
      · rw [v6 j z.1 z.2, s278 _ (by omega) (by omega), o6 _ (by omega), I5 275 (by omega) (by omega) (by omega) (by omega) (by omega), show 5 + (j - 5) = j by omega]
      · rw [v7 j (by omega), e2, c5 275 (by omega), hp8, loq j (by omega)]
    have u12 : ∀ x, x < 27984 → hia h12 278 x = hia h 278 x := fun x hx => by rw [tpi, v8 x hx, e2, c5 280 (by omega), mf.2.2.2.1 280 (by omega) (by omega) (by omega), b4, o7 x hx, I5 278 (by omega) (by omega) (by omega) (by omega) (by omega)]
    have o12 : ∀ j, j < 16 → hia h12 279 j = hia h 279 j := fun j hj => by rw [tpi, v9 j hj, e2, c5 281 (by omega), mf.2.2.2.1 281 (by omega) (by omega) (by omega), b4, o8 j hj, I5 279 (by omega) (by omega) (by omega) (by omega) (by omega)]
    refine GI_day g r ⟨?_, ?_, ?_, SS⟩ (fun a ha => ?_) (fun a y1 y2 y3 y4 => ?_) (fun k y1 y2 => by rw [f24, up1_n _ _ y2, up1_n _ _ y1]) (by rw [f24, up1_n _ _ (by omega), up1_s]) (by rw [f24, up1_s]) (fun k y1 y2 y3 y4 y5 => ?_) (by rw [m5.2.2.1, up1_s]) ?_ (fun a y1 y2 y3 y4 y5 y6 => ?_) row u12 o12 (NeV_a (by rw [FA 231 (by omega), xw.2.1 231 (by omega)]) (fun a y1 y2 => by rw [IL a (by omega) (by omega) (by omega) (by omega) (by omega) (by omega), ei5, xwi]) V3) ivq (fun r hr => ?_)
    · rw [m5.1.1, v1.1, es.1.1, cs.1.1, mf.1.1, b1.1, o1.1, kp5.1.1, xw.1.1, ar.1.1, as.1.1, xf.1.1]
    · rw [m5.1.2.1, v1.2.1, es.1.2.1, cs.1.2.1, mf.1.2.1, b1.2.1, o1.2.1, kp5.1.2.1, xw.1.2.1, ar.1.2.1, as.1.2.1, xf.1.2.1]
    · rw [m5.1.2.2.1, v1.2.2.1, es.1.2.2.1, cs.1.2.2.1, mf.1.2.2.1, b1.2.2.1, o1.2.2.1, kp5.1.2.2.1, xw.1.2.2.1, ar.1.2.2.1, as.1.2.2.1, xf.1.2.2.1]
    · rw [m5.2.2.2.2, v2, es.2, cs.2, mf.2.2.2.2 a (by omega) (by omega), b2, o2, t4, xw.2.2.2.2, ar.1.2.2.2.2.2, as.2, xf.1.2.2.2.2.2.2.2.1]
    · rw [FA a y3, xw.2.1 a y1]
      by_cases z : a = 40
      · rw [z, e40, F2 40 (by omega) (by omega)]
      · rw [ar.2.1 a y2 y4 z, F2 a y1 y2]
    · rw [g273 k y2]
      by_cases z : k = 8
      · rw [z, up1_s]; exact r.2.2.2.2.1.symm
      · rw [up1_n _ _ z, e4, up1_n _ _ y5, c2', M82 k z y3 y4 y1]
    · rw [g273 52 (by omega), up1_n _ _ (by omega), e4, up1_s]
    · have n278 : a ≠ 278 := fun z => y1 (by rw [z]; unfold scr; omega)
      have n280 : a ≠ 280 := fun z => y1 (by rw [z]; unfold scr; omega)
      have n281 : a ≠ 281 := fun z => y1 (by rw [z]; unfold scr; omega)
      have n219 : a ≠ 219 := fun z => y1 (by rw [z]; unfold scr; omega)
      have n220 : a ≠ 220 := fun z => y1 (by rw [z]; unfold scr; omega)
      rw [IL a y2 n278 y3 n280 n281 y4]
      by_cases z : a = 42
      · rw [z]; exact I5'
      · exact I5 a y5 y6 n219 n220 z
    · have z : hia h12 299 = f := by rw [tpi, v5 299 (by omega) (by omega) (by omega), e2, c4]
      rw [z]
      exact hf r hr
  · have R := fun Q => x_refused (d + 9) 1 (by omega) s Q
    have e1 : rfV 1 = -1 := by decide
    obtain ⟨hM1, ei, ef, -, fin⟩ := rfM 1 (by omega) g
    rw [e1] at R hM1 ei ef fin
    generalize xrH h (-1) (rfX 1) = h1 at *
    have k81 := hM1.1
    obtain ⟨hM2, ei2, ef2, kp⟩ := thM hM1
    generalize hh : thH h1 = h2 at *
    unfold thH at hh
    have k82 := hM2.1
    have T := fun Q => m_tellR (d + 9) 1 (by omega) hM2 Q
    rw [e1] at T
    have Y := fin h2 kp
    generalize tnH h2 (-1) 1 = h9 at *
    have fin2 : callD (d + 11) 245 [.ref 273, .int sI, .int nI'] h1 (fun r2 h2 => r2 = some (Value.int (-1)) ∧ Pst h h2) := by
      rw [E_Mo_days]
      by_cases c1 : rgI sI 1000000
      · rw [b01_t (by rw [q1]; exact c1)] at I1
        rw [b01_f (by rw [q2]; exact fun z => c ⟨c1, z⟩)] at I2
        simp (disch := omega) only [U_Mo_days (cm _), SA, SB, SC1, SC2, SG, SK, SV, hh, k81, k82, I1, I2, T, eqI, eq_self, Nat.one_ne_zero, true_or, or_true, true_implies, not_true_eq_false, not_false_eq_true, false_implies, true_and, and_true]
        exact Y
      · rw [b01_f (by rw [q1]; exact c1)] at I1
        simp (disch := omega) only [U_Mo_days (cm _), SA, SB, SC1, SC2, SG, SK, SV, hh, k81, k82, I1, T, eqI, eq_self, true_or, or_true, true_implies, not_true_eq_false, not_false_eq_true, false_implies, true_and, and_true]
        exact Y
    rw [E_Di_days]
    by_cases a1 : sI < nI 0
    · simp (disch := omega) only [U_Di_days (cm _), SA, SB, SC1, SC2, SG, SK, SV, so, R, a1, true_or, or_true, true_implies, not_true_eq_false, not_false_eq_true, false_implies, true_and, and_true]
      exact ⟨_, rfl, fin2⟩
    · by_cases a2 : nI 1000000 < sI
      · simp (disch := omega) only [U_Di_days (cm _), SA, SB, SC1, SC2, SG, SK, SV, so, R, a1, a2, true_or, or_true, true_implies, not_true_eq_false, not_false_eq_true, false_implies, true_and, and_true]
        exact ⟨_, rfl, fin2⟩
      · by_cases a3 : nI' < nI 1
        · simp (disch := omega) only [U_Di_days (cm _), SA, SB, SC1, SC2, SG, SK, SV, so, R, a1, a2, a3, true_or, or_true, true_implies, not_true_eq_false, not_false_eq_true, false_implies, true_and, and_true]
          exact ⟨_, rfl, fin2⟩
        · have a4 : ¬ nI' ≤ nI 60 := fun z => c ⟨⟨Int32.not_lt.mp a1, Int32.not_lt.mp a2⟩, Int32.not_lt.mp a3, z⟩
          simp (disch := omega) only [U_Di_days (cm _), SA, SB, SC1, SC2, SG, SK, SV, so, R, a1, a2, a3, a4, true_or, or_true, true_implies, not_true_eq_false, not_false_eq_true, false_implies, true_and, and_true]
          exact ⟨_, rfl, fin2⟩
