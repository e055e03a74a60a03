/-! ===== the reference reads an order, on ===== -/
set_option maxRecDepth 20000 in
theorem UC_Mo_readOrder_177 {G : GT} (hG : Gmono G) (R : RT) (lm : Nat × Nat) : WP cd_Mo_readOrder G R lm 0 = stp G R lm (7, 1, 0, 0, (-1), 0, []) (WP cd_Mo_readOrder G R lm) ∧ WP cd_Mo_readOrder G R lm 1 = stp G R lm (4, 2, 1, 0, 0, 0, []) (WP cd_Mo_readOrder G R lm) ∧ WP cd_Mo_readOrder G R lm 2 = stp G R lm (7, 3, 0, 0, nI 0, 0, []) (WP cd_Mo_readOrder G R lm) ∧ WP cd_Mo_readOrder G R lm 3 = stp G R lm (4, 4, 2, 0, 0, 0, []) (WP cd_Mo_readOrder G R lm) ∧ WP cd_Mo_readOrder G R lm 5 = stp G R lm (7, 6, 0, 0, nI 3, 0, []) (WP cd_Mo_readOrder G R lm) ∧ WP cd_Mo_readOrder G R lm 6 = stp G R lm (44, 9, 34, 0, 0, 0, []) (WP cd_Mo_readOrder G R lm) ∧ WP cd_Mo_readOrder G R lm 9 = stp G R lm (2, 10, 0, 0, 0, 0, []) (WP cd_Mo_readOrder G R lm) ∧ WP cd_Mo_readOrder G R lm 10 = stp G R lm (2, 11, 0, 0, 0, 0, []) (WP cd_Mo_readOrder G R lm) ∧ WP cd_Mo_readOrder G R lm 11 = stp G R lm (58, 14, 8, 44, 0, 0, []) (WP cd_Mo_readOrder G R lm) ∧ WP cd_Mo_readOrder G R lm 14 = stp G R lm (1, 15, 2, 0, 0, 0, []) (WP cd_Mo_readOrder G R lm) ∧ WP cd_Mo_readOrder G R lm 15 = stp G R lm (64, 16, 0, 0, 0, 0, []) (WP cd_Mo_readOrder G R lm) ∧ WP cd_Mo_readOrder G R lm 16 = stp G R lm (86, 19, 167, 1, 0, 0, [8]) (WP cd_Mo_readOrder G R lm) ∧ WP cd_Mo_readOrder G R lm 19 = stp G R lm (47, 22, 26, 0, 0, 0, []) (WP cd_Mo_readOrder G R lm) ∧ WP cd_Mo_readOrder G R lm 22 = stp G R lm (1, 23, 2, 0, 0, 0, []) (WP cd_Mo_readOrder G R lm) ∧ WP cd_Mo_readOrder G R lm 23 = stp G R lm (40, 27, 0, 0, 0, 0, []) (WP cd_Mo_readOrder G R lm) ∧ WP cd_Mo_readOrder G R lm 26 = stp G R lm (1, 27, 1, 0, 0, 0, []) (WP cd_Mo_readOrder G R lm) ∧ WP cd_Mo_readOrder G R lm 27 = stp G R lm (4, 28, 1, 0, 0, 0, []) (WP cd_Mo_readOrder G R lm) ∧ WP cd_Mo_readOrder G R lm 28 = stp G R lm (11, 31, 2, 0, nI 1, 0, []) (WP cd_Mo_readOrder G R lm) ∧ WP cd_Mo_readOrder G R lm 31 = stp G R lm (40, 4, 0, 0, 0, 0, []) (WP cd_Mo_readOrder G R lm) ∧ WP cd_Mo_readOrder G R lm 34 = stp G R lm (2, 35, 0, 0, 0, 0, []) (WP cd_Mo_readOrder G R lm) ∧ WP cd_Mo_readOrder G R lm 35 = stp G R lm (1, 36, 1, 0, 0, 0, []) (WP cd_Mo_readOrder G R lm) ∧ WP cd_Mo_readOrder G R lm 36 = stp G R lm (7, 37, 0, 0, (-1), 0, []) (WP cd_Mo_readOrder G R lm) ∧ WP cd_Mo_readOrder G R lm 37 = stp G R lm (41, 40, 53, 0, 0, 0, []) (WP cd_Mo_readOrder G R lm) ∧ WP cd_Mo_readOrder G R lm 40 = stp G R lm (2, 41, 0, 0, 0, 0, []) (WP cd_Mo_readOrder G R lm) ∧ WP cd_Mo_readOrder G R lm 41 = stp G R lm (56, 44, 8, 21, 0, 0, []) (WP cd_Mo_readOrder G R lm) ∧ WP cd_Mo_readOrder G R lm 44 = stp G R lm (7, 46, 0, 0, nI 12, 0, []) (WP cd_Mo_readOrder G R lm) ∧ WP cd_Mo_readOrder G R lm 46 = stp G R lm (44, 49, 53, 0, 0, 0, []) (WP cd_Mo_readOrder G R lm) ∧ WP cd_Mo_readOrder G R lm 49 = stp G R lm (7, 50, 0, 0, nI 1, 0, []) (WP cd_Mo_readOrder G R lm) ∧ WP cd_Mo_readOrder G R lm 50 = stp G R lm (40, 54, 0, 0, 0, 0, []) (WP cd_Mo_readOrder G R lm) ∧ WP cd_Mo_readOrder G R lm 53 = stp G R lm (7, 54, 0, 0, nI 0, 0, []) (WP cd_Mo_readOrder G R lm) ∧ WP cd_Mo_readOrder G R lm 54 = stp G R lm (86, 57, 169, 1, 0, 0, [8]) (WP cd_Mo_readOrder G R lm) ∧ WP cd_Mo_readOrder G R lm 57 = stp G R lm (2, 58, 0, 0, 0, 0, []) (WP cd_Mo_readOrder G R lm) ∧ WP cd_Mo_readOrder G R lm 58 = stp G R lm (56, 61, 8, 19, 0, 0, []) (WP cd_Mo_readOrder G R lm) ∧ WP cd_Mo_readOrder G R lm 61 = stp G R lm (47, 64, 65, 0, 0, 0, []) (WP cd_Mo_readOrder G R lm) ∧ WP cd_Mo_readOrder G R lm 64 = stp G R lm (84, 65, 0, 0, 0, 0, []) (WP cd_Mo_readOrder G R lm) ∧ WP cd_Mo_readOrder G R lm 65 = stp G R lm (7, 67, 0, 0, nI 10, 0, []) (WP cd_Mo_readOrder G R lm) ∧ WP cd_Mo_readOrder G R lm 67 = stp G R lm (2, 68, 0, 0, 0, 0, []) (WP cd_Mo_readOrder G R lm) ∧ WP cd_Mo_readOrder G R lm 68 = stp G R lm (56, 71, 8, 21, 0, 0, []) (WP cd_Mo_readOrder G R lm) ∧ WP cd_Mo_readOrder G R lm 71 = stp G R lm (14, 72, 0, 0, 0, 0, []) (WP cd_Mo_readOrder G R lm) ∧ WP cd_Mo_readOrder G R lm 72 = stp G R lm (4, 73, 2, 0, 0, 0, []) (WP cd_Mo_readOrder G R lm) ∧ WP cd_Mo_readOrder G R lm 73 = stp G R lm (2, 74, 0, 0, 0, 0, []) (WP cd_Mo_readOrder G R lm) ∧ WP cd_Mo_readOrder G R lm 74 = stp G R lm (37, 75, 0, 0, 0, 0, []) (WP cd_Mo_readOrder G R lm) ∧ WP cd_Mo_readOrder G R lm 75 = stp G R lm (56, 78, 8, 21, 0, 0, []) (WP cd_Mo_readOrder G R lm) ∧ WP cd_Mo_readOrder G R lm 78 = stp G R lm (7, 79, 0, 0, nI 1, 0, []) (WP cd_Mo_readOrder G R lm) ∧ WP cd_Mo_readOrder G R lm 79 = stp G R lm (12, 80, 0, 0, 0, 0, []) (WP cd_Mo_readOrder G R lm) ∧ WP cd_Mo_readOrder G R lm 80 = stp G R lm (59, 83, 8, 21, 0, 0, []) (WP cd_Mo_readOrder G R lm) ∧ WP cd_Mo_readOrder G R lm 83 = stp G R lm (7, 84, 0, 0, nI 0, 0, []) (WP cd_Mo_readOrder G R lm) ∧ WP cd_Mo_readOrder G R lm 84 = stp G R lm (4, 85, 3, 0, 0, 0, []) (WP cd_Mo_readOrder G R lm) ∧ WP cd_Mo_readOrder G R lm 86 = stp G R lm (7, 88, 0, 0, nI 10, 0, []) (WP cd_Mo_readOrder G R lm) ∧ WP cd_Mo_readOrder G R lm 88 = stp G R lm (44, 91, 106, 0, 0, 0, []) (WP cd_Mo_readOrder G R lm) ∧ WP cd_Mo_readOrder G R lm 91 = stp G R lm (2, 92, 0, 0, 0, 0, []) (WP cd_Mo_readOrder G R lm) ∧ WP cd_Mo_readOrder G R lm 92 = stp G R lm (58, 95, 8, 45, 0, 0, []) (WP cd_Mo_readOrder G R lm) ∧ WP cd_Mo_readOrder G R lm 95 = stp G R lm (1, 96, 2, 0, 0, 0, []) (WP cd_Mo_readOrder G R lm) ∧ WP cd_Mo_readOrder G R lm 96 = stp G R lm (1, 97, 3, 0, 0, 0, []) (WP cd_Mo_readOrder G R lm) ∧ WP cd_Mo_readOrder G R lm 97 = stp G R lm (12, 98, 0, 0, 0, 0, []) (WP cd_Mo_readOrder G R lm) ∧ WP cd_Mo_readOrder G R lm 98 = stp G R lm (7, 99, 0, 0, nI 0, 0, []) (WP cd_Mo_readOrder G R lm) ∧ WP cd_Mo_readOrder G R lm 99 = stp G R lm (66, 100, 0, 0, 0, 0, []) (WP cd_Mo_readOrder G R lm) ∧ WP cd_Mo_readOrder G R lm 100 = stp G R lm (11, 103, 3, 0, nI 1, 0, []) (WP cd_Mo_readOrder G R lm) ∧ WP cd_Mo_readOrder G R lm 103 = stp G R lm (40, 85, 0, 0, 0, 0, []) (WP cd_Mo_readOrder G R lm) ∧ WP cd_Mo_readOrder G R lm 106 = stp G R lm (2, 107, 0, 0, 0, 0, []) (WP cd_Mo_readOrder G R lm) ∧ WP cd_Mo_readOrder G R lm 107 = stp G R lm (58, 110, 8, 45, 0, 0, []) (WP cd_Mo_readOrder G R lm) ∧ WP cd_Mo_readOrder G R lm 110 = stp G R lm (1, 111, 2, 0, 0, 0, []) (WP cd_Mo_readOrder G R lm) ∧ WP cd_Mo_readOrder G R lm 111 = stp G R lm (1, 112, 1, 0, 0, 0, []) (WP cd_Mo_readOrder G R lm) ∧ WP cd_Mo_readOrder G R lm 112 = stp G R lm (66, 113, 0, 0, 0, 0, []) (WP cd_Mo_readOrder G R lm) ∧ WP cd_Mo_readOrder G R lm 113 = stp G R lm (1, 114, 1, 0, 0, 0, []) (WP cd_Mo_readOrder G R lm) ∧ WP cd_Mo_readOrder G R lm 114 = stp G R lm (7, 115, 0, 0, nI 1, 0, []) (WP cd_Mo_readOrder G R lm) ∧ WP cd_Mo_readOrder G R lm 115 = stp G R lm (41, 118, 125, 0, 0, 0, []) (WP cd_Mo_readOrder G R lm) ∧ WP cd_Mo_readOrder G R lm 118 = stp G R lm (2, 119, 0, 0, 0, 0, []) (WP cd_Mo_readOrder G R lm) ∧ WP cd_Mo_readOrder G R lm 119 = stp G R lm (1, 120, 2, 0, 0, 0, []) (WP cd_Mo_readOrder G R lm) ∧ WP cd_Mo_readOrder G R lm 120 = stp G R lm (7, 121, 0, 0, nI 1, 0, []) (WP cd_Mo_readOrder G R lm) ∧ WP cd_Mo_readOrder G R lm 121 = stp G R lm (12, 122, 0, 0, 0, 0, []) (WP cd_Mo_readOrder G R lm) ∧ WP cd_Mo_readOrder G R lm 122 = stp G R lm (86, 125, 235, 1, 0, 0, [8]) (WP cd_Mo_readOrder G R lm) ∧ WP cd_Mo_readOrder G R lm 125 = stp G R lm (1, 126, 1, 0, 0, 0, []) (WP cd_Mo_readOrder G R lm) ∧ WP cd_Mo_readOrder G R lm 126 = stp G R lm (48, 129, 150, 0, 0, 0, []) (WP cd_Mo_readOrder G R lm) ∧ WP cd_Mo_readOrder G R lm 129 = stp G R lm (2, 130, 0, 0, 0, 0, []) (WP cd_Mo_readOrder G R lm) ∧ WP cd_Mo_readOrder G R lm 130 = stp G R lm (8, 133, 0, 0, 0, lN 655, []) (WP cd_Mo_readOrder G R lm) ∧ WP cd_Mo_readOrder G R lm 133 = stp G R lm (1, 134, 2, 0, 0, 0, []) (WP cd_Mo_readOrder G R lm) ∧ WP cd_Mo_readOrder G R lm 134 = stp G R lm (7, 135, 0, 0, nI 3, 0, []) (WP cd_Mo_readOrder G R lm) ∧ WP cd_Mo_readOrder G R lm 135 = stp G R lm (12, 136, 0, 0, 0, 0, []) (WP cd_Mo_readOrder G R lm) ∧ WP cd_Mo_readOrder G R lm 136 = stp G R lm (86, 139, 236, 2, 0, 0, [8]) (WP cd_Mo_readOrder G R lm) ∧ WP cd_Mo_readOrder G R lm 139 = stp G R lm (2, 140, 0, 0, 0, 0, []) (WP cd_Mo_readOrder G R lm) ∧ WP cd_Mo_readOrder G R lm 140 = stp G R lm (8, 143, 0, 0, 0, lN 51, []) (WP cd_Mo_readOrder G R lm) ∧ WP cd_Mo_readOrder G R lm 143 = stp G R lm (1, 144, 2, 0, 0, 0, []) (WP cd_Mo_readOrder G R lm) ∧ WP cd_Mo_readOrder G R lm 144 = stp G R lm (7, 146, 0, 0, nI 8, 0, []) (WP cd_Mo_readOrder G R lm) ∧ WP cd_Mo_readOrder G R lm 146 = stp G R lm (12, 147, 0, 0, 0, 0, []) (WP cd_Mo_readOrder G R lm) ∧ WP cd_Mo_readOrder G R lm 147 = stp G R lm (86, 150, 236, 2, 0, 0, [8]) (WP cd_Mo_readOrder G R lm) ∧ WP cd_Mo_readOrder G R lm 150 = stp G R lm (2, 151, 0, 0, 0, 0, []) (WP cd_Mo_readOrder G R lm) ∧ WP cd_Mo_readOrder G R lm 151 = stp G R lm (58, 154, 8, 45, 0, 0, []) (WP cd_Mo_readOrder G R lm) ∧ WP cd_Mo_readOrder G R lm 154 = stp G R lm (1, 155, 2, 0, 0, 0, []) (WP cd_Mo_readOrder G R lm) ∧ WP cd_Mo_readOrder G R lm 155 = stp G R lm (7, 157, 0, 0, nI 7, 0, []) (WP cd_Mo_readOrder G R lm) ∧ WP cd_Mo_readOrder G R lm 157 = stp G R lm (12, 158, 0, 0, 0, 0, []) (WP cd_Mo_readOrder G R lm) ∧ WP cd_Mo_readOrder G R lm 158 = stp G R lm (7, 159, 0, 0, nI 1, 0, []) (WP cd_Mo_readOrder G R lm) ∧ WP cd_Mo_readOrder G R lm 159 = stp G R lm (66, 160, 0, 0, 0, 0, []) (WP cd_Mo_readOrder G R lm) ∧ WP cd_Mo_readOrder G R lm 160 = stp G R lm (2, 161, 0, 0, 0, 0, []) (WP cd_Mo_readOrder G R lm) ∧ WP cd_Mo_readOrder G R lm 161 = stp G R lm (56, 164, 8, 19, 0, 0, []) (WP cd_Mo_readOrder G R lm) ∧ WP cd_Mo_readOrder G R lm 164 = stp G R lm (48, 167, 198, 0, 0, 0, []) (WP cd_Mo_readOrder G R lm) ∧ WP cd_Mo_readOrder G R lm 167 = stp G R lm (2, 168, 0, 0, 0, 0, []) (WP cd_Mo_readOrder G R lm) ∧ WP cd_Mo_readOrder G R lm 168 = stp G R lm (8, 171, 0, 0, 0, lN 21279923, []) (WP cd_Mo_readOrder G R lm) ∧ WP cd_Mo_readOrder G R lm 171 = stp G R lm (86, 174, 167, 1, 0, 0, [8]) (WP cd_Mo_readOrder G R lm) ∧ WP cd_Mo_readOrder G R lm 174 = stp G R lm (47, 177, 198, 0, 0, 0, []) (WP cd_Mo_readOrder G R lm) ∧ WP cd_Mo_readOrder G R lm 178 = stp G R lm (86, 181, 166, 0, 0, 0, [8]) (WP cd_Mo_readOrder G R lm) ∧ WP cd_Mo_readOrder G R lm 181 = stp G R lm (2, 182, 0, 0, 0, 0, []) (WP cd_Mo_readOrder G R lm) ∧ WP cd_Mo_readOrder G R lm 182 = stp G R lm (58, 185, 8, 45, 0, 0, []) (WP cd_Mo_readOrder G R lm) ∧ WP cd_Mo_readOrder G R lm 185 = stp G R lm (1, 186, 2, 0, 0, 0, []) (WP cd_Mo_readOrder G R lm) ∧ WP cd_Mo_readOrder G R lm 186 = stp G R lm (7, 188, 0, 0, nI 7, 0, []) (WP cd_Mo_readOrder G R lm) ∧ WP cd_Mo_readOrder G R lm 188 = stp G R lm (12, 189, 0, 0, 0, 0, []) (WP cd_Mo_readOrder G R lm) ∧ WP cd_Mo_readOrder G R lm 189 = stp G R lm (2, 190, 0, 0, 0, 0, []) (WP cd_Mo_readOrder G R lm) ∧ WP cd_Mo_readOrder G R lm 190 = stp G R lm (8, 191, 0, 0, 0, lN 1, []) (WP cd_Mo_readOrder G R lm) ∧ WP cd_Mo_readOrder G R lm 191 = stp G R lm (8, 194, 0, 0, 0, lN 20, []) (WP cd_Mo_readOrder G R lm) ∧ WP cd_Mo_readOrder G R lm 194 = stp G R lm (86, 197, 170, 2, 0, 0, [8]) (WP cd_Mo_readOrder G R lm) ∧ WP cd_Mo_readOrder G R lm 197 = stp G R lm (66, 198, 0, 0, 0, 0, []) (WP cd_Mo_readOrder G R lm) ∧ WP cd_Mo_readOrder G R lm 198 = stp G R lm (2, 199, 0, 0, 0, 0, []) (WP cd_Mo_readOrder G R lm) ∧ WP cd_Mo_readOrder G R lm 199 = stp G R lm (58, 202, 8, 45, 0, 0, []) (WP cd_Mo_readOrder G R lm) ∧ WP cd_Mo_readOrder G R lm 202 = stp G R lm (1, 203, 2, 0, 0, 0, []) (WP cd_Mo_readOrder G R lm) ∧ WP cd_Mo_readOrder G R lm 203 = stp G R lm (7, 204, 0, 0, nI 5, 0, []) (WP cd_Mo_readOrder G R lm) ∧ WP cd_Mo_readOrder G R lm 204 = stp G R lm (12, 205, 0, 0, 0, 0, []) (WP cd_Mo_readOrder G R lm) ∧ WP cd_Mo_readOrder G R lm 205 = stp G R lm (2, 206, 0, 0, 0, 0, []) (WP cd_Mo_readOrder G R lm) ∧ WP cd_Mo_readOrder G R lm 206 = stp G R lm (56, 209, 8, 23, 0, 0, []) (WP cd_Mo_readOrder G R lm) ∧ WP cd_Mo_readOrder G R lm 209 = stp G R lm (66, 210, 0, 0, 0, 0, []) (WP cd_Mo_readOrder G R lm) ∧ WP cd_Mo_readOrder G R lm 210 = stp G R lm (2, 211, 0, 0, 0, 0, []) (WP cd_Mo_readOrder G R lm) ∧ WP cd_Mo_readOrder G R lm 211 = stp G R lm (56, 214, 8, 19, 0, 0, []) (WP cd_Mo_readOrder G R lm) ∧ WP cd_Mo_readOrder G R lm 214 = stp G R lm (48, 217, 236, 0, 0, 0, []) (WP cd_Mo_readOrder G R lm) ∧ WP cd_Mo_readOrder G R lm 217 = stp G R lm (2, 218, 0, 0, 0, 0, []) (WP cd_Mo_readOrder G R lm) ∧ WP cd_Mo_readOrder G R lm 218 = stp G R lm (8, 221, 0, 0, 0, lN 294, []) (WP cd_Mo_readOrder G R lm) ∧ WP cd_Mo_readOrder G R lm 221 = stp G R lm (86, 224, 167, 1, 0, 0, [8]) (WP cd_Mo_readOrder G R lm) ∧ WP cd_Mo_readOrder G R lm 224 = stp G R lm (47, 227, 236, 0, 0, 0, []) (WP cd_Mo_readOrder G R lm) ∧ WP cd_Mo_readOrder G R lm 227 = stp G R lm (2, 228, 0, 0, 0, 0, []) (WP cd_Mo_readOrder G R lm) ∧ WP cd_Mo_readOrder G R lm 228 = stp G R lm (86, 231, 166, 0, 0, 0, [8]) (WP cd_Mo_readOrder G R lm) ∧ WP cd_Mo_readOrder G R lm 231 = stp G R lm (2, 232, 0, 0, 0, 0, []) (WP cd_Mo_readOrder G R lm) ∧ WP cd_Mo_readOrder G R lm 232 = stp G R lm (7, 233, 0, 0, nI 1, 0, []) (WP cd_Mo_readOrder G R lm) ∧ WP cd_Mo_readOrder G R lm 233 = stp G R lm (86, 236, 186, 1, 0, 0, [8]) (WP cd_Mo_readOrder G R lm) ∧ WP cd_Mo_readOrder G R lm 236 = stp G R lm (2, 237, 0, 0, 0, 0, []) (WP cd_Mo_readOrder G R lm) ∧ WP cd_Mo_readOrder G R lm 237 = stp G R lm (58, 240, 8, 45, 0, 0, []) (WP cd_Mo_readOrder G R lm) ∧ WP cd_Mo_readOrder G R lm 240 = stp G R lm (1, 241, 2, 0, 0, 0, []) (WP cd_Mo_readOrder G R lm) ∧ WP cd_Mo_readOrder G R lm 241 = stp G R lm (7, 243, 0, 0, nI 6, 0, []) (WP cd_Mo_readOrder G R lm) ∧ WP cd_Mo_readOrder G R lm 243 = stp G R lm (12, 244, 0, 0, 0, 0, []) (WP cd_Mo_readOrder G R lm) ∧ WP cd_Mo_readOrder G R lm 244 = stp G R lm (2, 245, 0, 0, 0, 0, []) (WP cd_Mo_readOrder G R lm) ∧ WP cd_Mo_readOrder G R lm 245 = stp G R lm (56, 248, 8, 23, 0, 0, []) (WP cd_Mo_readOrder G R lm) ∧ WP cd_Mo_readOrder G R lm 248 = stp G R lm (66, 249, 0, 0, 0, 0, []) (WP cd_Mo_readOrder G R lm) ∧ WP cd_Mo_readOrder G R lm 249 = stp G R lm (84, 250, 0, 0, 0, 0, []) (WP cd_Mo_readOrder G R lm) := ⟨WP_eq hG rfl, WP_eq hG rfl, WP_eq hG rfl, WP_eq hG rfl, WP_eq hG rfl, WP_eq hG rfl, WP_eq hG rfl, WP_eq hG rfl, WP_eq hG rfl, WP_eq hG rfl, WP_eq hG rfl, WP_eq hG rfl, WP_eq hG rfl, WP_eq hG rfl, WP_eq hG rfl, WP_eq hG rfl, WP_eq hG rfl, WP_eq hG rfl, WP_eq hG rfl, WP_eq hG rfl, WP_eq hG rfl, WP_eq hG rfl, WP_eq hG rfl, WP_eq hG rfl, WP_eq hG rfl, WP_eq hG rfl, WP_eq hG rfl, WP_eq hG rfl, WP_eq hG rfl, WP_eq hG rfl, WP_eq hG rfl, WP_eq hG rfl, WP_eq hG rfl, WP_eq hG rfl, WP_eq hG rfl, WP_eq hG rfl, WP_eq hG rfl, WP_eq hG rfl, WP_eq hG rfl, WP_eq hG rfl, WP_eq hG rfl, WP_eq hG rfl, WP_eq hG rfl, WP_eq hG rfl, WP_eq hG rfl, WP_eq hG rfl, WP_eq hG rfl, WP_eq hG rfl, WP_eq hG rfl, WP_eq hG rfl, WP_eq hG rfl, WP_eq hG rfl, WP_eq hG rfl, WP_eq hG rfl, WP_eq hG rfl, WP_eq hG rfl, WP_eq hG rfl, WP_eq hG rfl, WP_eq hG rfl, WP_eq hG rfl, WP_eq hG rfl, WP_eq hG rfl, WP_eq hG rfl, WP_eq hG rfl, WP_eq hG rfl, WP_eq hG rfl, WP_eq hG rfl, WP_eq hG rfl, WP_eq hG rfl, WP_eq hG rfl, WP_eq hG rfl, WP_eq hG rfl, WP_eq hG rfl, WP_eq hG rfl, WP_eq hG rfl, WP_eq hG rfl, WP_eq hG rfl, WP_eq hG rfl, WP_eq hG rfl, WP_eq hG rfl, WP_eq hG rfl, WP_eq hG rfl, WP_eq hG rfl, WP_eq hG rfl, WP_eq hG rfl, WP_eq hG rfl, WP_eq hG rfl, WP_eq hG rfl, WP_eq hG rfl, WP_eq hG rfl, WP_eq hG rfl, WP_eq hG rfl, WP_eq hG rfl, WP_eq hG rfl, WP_eq hG rfl, WP_eq hG rfl, WP_eq hG rfl, WP_eq hG rfl, WP_eq hG rfl, WP_eq hG rfl, WP_eq hG rfl, WP_eq hG rfl, WP_eq hG rfl, WP_eq hG rfl, WP_eq hG rfl, WP_eq hG rfl, WP_eq hG rfl, WP_eq hG rfl, WP_eq hG rfl, WP_eq hG rfl, WP_eq hG rfl, WP_eq hG rfl, WP_eq hG rfl, WP_eq hG rfl, WP_eq hG rfl, WP_eq hG rfl, WP_eq hG rfl, WP_eq hG rfl, WP_eq hG rfl, WP_eq hG rfl, WP_eq hG rfl, WP_eq hG rfl, WP_eq hG rfl, WP_eq hG rfl, WP_eq hG rfl, WP_eq hG rfl, WP_eq hG rfl, WP_eq hG rfl, WP_eq hG rfl, WP_eq hG rfl, WP_eq hG rfl, WP_eq hG rfl, WP_eq hG rfl, WP_eq hG rfl, WP_eq hG rfl, WP_eq hG rfl, WP_eq hG rfl, WP_eq hG rfl, WP_eq hG rfl, WP_eq hG rfl⟩
theorem m_ro150f (d c q : Nat) (hc : c ≤ 110) {h : MH} {T : TP} {cf : CFt} {nc k : Nat} (r : MRz h T 1 q cf nc k) (hk : k ≤ 50) (hn : nc < q) (cv : CV 1 cf nc) (cw : bW T q 20 = false) (w1 w3 : Option Value) (lm : Nat × Nat) (Q : RT) (K : TlO h T cf nc c Q (match pTm T 1 q with
  | .error f => .error f
  | .ok (n, q2) => match pTs T 1 q2 k with
    | .error f => .error f
    | .ok (t, q3, k3) => .ok (n, t, q3, k3))) : WP cd_Mo_readOrder (callD (d + 7)) Q lm 150 [] [some (.ref 273), w1, some (.int (nI c)), w3] h := by
  obtain ⟨k8, m1, m2, m3, -⟩ := r.2.1.1.ord
  have b := r.2.2.2.1
  have hq := r.1.2.2.1
  unfold pTm at K
  have R1 := MRz_c r (x := 298) (Or.inr rfl) (up1 (hia h 298) (c + 7) (nI 1))
  have F1 := MTF_c h (x := 298) (Or.inr rfl) (up1 (hia h 298) (c + 7) (nI 1))
  have W' := fun Q => m_isWord (d + 6) q 20 (by omega) R1.1 Q
  simp only [show ev (wds 20).reverse = 21279923 by decide] at W'
  have g1 : hia (sIA h 298 (up1 (hia h 298) (c + 7) (nI 1))) 298 = up1 (hia h 298) (c + 7) (nI 1) := hia_s _ _ _
  have gf : hfi (sIA h 298 (up1 (hia h 298) (c + 7) (nI 1))) 273 21 = hfi h 273 21 := rfl
  rw [if_neg (by rw [cw]; simp)] at K
  simp only at K
  rw [cw, b2_f] at W'
  have Y := fun w1 w3 => m_ro198 d c q 1 hc R1 hk hn cv (by rw [g1, up1_s]) w1 w3 lm Q (by
    cases hp : pTs T 1 q k with
    | error f =>
      rw [hp] at K
      exact fun h2 f2 e2 => K h2 (F1.trans f2) e2
    | ok w =>
      obtain ⟨t, q3, k3⟩ := w
      rw [hp] at K
      intro h4 cf4 nc4 f4 r4 g21 cc4 cv4 n4 l4 k4 kx g5 g6 g7 tt
      exact K h4 cf4 nc4 (F1.trans f4) r4 (g21.trans gf) cc4 cv4 n4 l4 k4 (fun x a1 a2 a3 => by rw [kx x a1 a2 a3, g1, up1_n _ _ a3]) g5 g6 g7 tt)
  clear K
  simp (disch := omega) only [UC_Mo_readOrder_198 (cm _), SA, SB, SC1, SC2, SG, SK, SV, SM, up1_s, k8, m1, m2, m3, b, W', nI_add, nI_clamp, in_eq, eqI, Nat.one_ne_zero, Nat.reduceLeDiff, true_implies, not_true_eq_false, not_false_eq_true, false_implies, true_and, and_true]
  exact Y _ _
theorem m_ro197 (d c q n : Nat) (hc : c ≤ 110) {h : MH} {T : TP} {cf : CFt} {nc k : Nat} (r : MRz h T 1 q cf nc k) (hk : k ≤ 50) (hn : nc < q) (cv : CV 1 cf nc) (w1 w3 : Option Value) (lm : Nat × Nat) (Q : RT) (K : TlO h T cf nc c Q (match pTs T 1 q k with
  | .error f => .error f
  | .ok (t, q3, k3) => .ok (n, t, q3, k3))) : WP cd_Mo_readOrder (callD (d + 7)) Q lm 197 [.int (nI n), .int (nI (c + 7)), .ref 298] [some (.ref 273), w1, some (.int (nI c)), w3] h := by
  obtain ⟨k8, m1, m2, m3, -⟩ := r.2.1.1.ord
  have R4 := MRz_c r (x := 298) (Or.inr rfl) (up1 (hia h 298) (c + 7) (nI n))
  have F4 := MTF_c h (x := 298) (Or.inr rfl) (up1 (hia h 298) (c + 7) (nI n))
  have g1 : hia (sIA h 298 (up1 (hia h 298) (c + 7) (nI n))) 298 = up1 (hia h 298) (c + 7) (nI n) := hia_s _ _ _
  have gf : hfi (sIA h 298 (up1 (hia h 298) (c + 7) (nI n))) 273 21 = hfi h 273 21 := rfl
  have Y := fun w1 w3 => m_ro198 d c q n hc R4 hk hn cv (by rw [g1, up1_s]) w1 w3 lm Q (by
    cases hp : pTs T 1 q k with
    | error f =>
      rw [hp] at K
      exact fun h2 f2 e2 => K h2 (F4.trans f2) e2
    | ok w =>
      obtain ⟨t, q3, k3⟩ := w
      rw [hp] at K
      intro h4 cf4 nc4 f4 r4 e21 cc4 cv4 n4 l4 k4 kx g5 g6 g7 tt
      exact K h4 cf4 nc4 (F4.trans f4) r4 (e21.trans gf) cc4 cv4 n4 l4 k4 (fun x a1 a2 a3 => by rw [kx x a1 a2 a3, g1, up1_n _ _ a3]) g5 g6 g7 tt)
  clear K
  simp (disch := omega) only [UC_Mo_readOrder_198 (cm _), SA, SB, SC1, SC2, SG, SV, SM, k8, m1, m2, m3, nI_clamp, in_eq, Nat.reduceLeDiff, true_implies, not_true_eq_false, not_false_eq_true, false_implies, true_and, and_true]
  exact Y _ _
theorem m_ro197E (d c : Nat) (hc : c ≤ 110) {h : MH} {f : Nat} (e : MErz h f) (v : Int32) (w1 w3 : Option Value) (lm : Nat × Nat) (Q : RT) (K : ∀ h', MTF h h' → MErz h' f → Q none h') : WP cd_Mo_readOrder (callD d) Q lm 197 [.int v, .int (nI (c + 7)), .ref 298] [some (.ref 273), w1, some (.int (nI c)), w3] h := by
  obtain ⟨k8, m1, m2, m3, -⟩ := (MErz_M e).ord
  have Y := fun g w1 w3 => m_ro198E d c hc (MErz_c e (x := 298) (Or.inr rfl) g) w1 w3 lm Q (fun h4 f4 e4 => K h4 ((MTF_c h (Or.inr rfl) g).trans f4) e4)
  simp (disch := omega) only [UC_Mo_readOrder_198 (cm _), SA, SB, SC1, SC2, SG, SV, SM, k8, m1, m2, m3, nI_clamp, in_eq, Nat.reduceLeDiff, true_implies, not_true_eq_false, not_false_eq_true, false_implies, true_and, and_true]
  exact Y _ _ _
theorem m_ro150t (d c q : Nat) (hc : c ≤ 110) {h : MH} {T : TP} {cf : CFt} {nc k : Nat} (r : MRz h T 1 q cf nc k) (hk : k ≤ 50) (hn : nc < q) (cv : CV 1 cf nc) (cw : bW T q 20 = true) (w1 w3 : Option Value) (lm : Nat × Nat) (Q : RT) (K : TlO h T cf nc c Q (match pTm T 1 q with
  | .error f => .error f
  | .ok (n, q2) => match pTs T 1 q2 k with
    | .error f => .error f
    | .ok (t, q3, k3) => .ok (n, t, q3, k3))) : WP cd_Mo_readOrder (callD (d + 7)) Q lm 150 [] [some (.ref 273), w1, some (.int (nI c)), w3] h := by
  obtain ⟨k8, m1, m2, m3, -⟩ := r.2.1.1.ord
  have b := r.2.2.2.1
  have hq := r.1.2.2.1
  unfold pTm at K
  have R1 := MRz_c r (x := 298) (Or.inr rfl) (up1 (hia h 298) (c + 7) (nI 1))
  have F1 := MTF_c h (x := 298) (Or.inr rfl) (up1 (hia h 298) (c + 7) (nI 1))
  have W' := fun Q => m_isWord (d + 6) q 20 (by omega) R1.1 Q
  simp only [show ev (wds 20).reverse = 21279923 by decide] at W'
  have g1 : hia (sIA h 298 (up1 (hia h 298) (c + 7) (nI 1))) 298 = up1 (hia h 298) (c + 7) (nI 1) := hia_s _ _ _
  have gf : hfi (sIA h 298 (up1 (hia h 298) (c + 7) (nI 1))) 273 21 = hfi h 273 21 := rfl
  rw [if_pos ⟨rfl, cw⟩] at K
  rw [cw, b2_t] at W'
  obtain ⟨a1, a2⟩ := bW_adv hq (by omega) cw
  obtain ⟨R2, F2⟩ := MRz_nx R1
  have NM := fun Q => (m_next1 (d + 5) q R1.1 Q).1
  have k82 := R2.1.1.1
  obtain ⟨-, m21, m22, m23, -⟩ := R2.2.1.1.ord
  have g3 : hia (nxH (sIA h 298 (up1 (hia h 298) (c + 7) (nI 1))) T q) 298 = up1 (hia h 298) (c + 7) (nI 1) := by rw [F2.2.2.1 298 (by omega), hia_s]
  have g21 : hfi (nxH (sIA h 298 (up1 (hia h 298) (c + 7) (nI 1))) T q) 273 21 = hfi h 273 21 := by have z := MTF.f21 F2; exact z
  simp (disch := omega) only [UC_Mo_readOrder_177 (cm _), SA, SB, SC1, SC2, SG, SK, SV, SM, up1_s, k8, m1, m2, m3, b, W', nI_add, nI_clamp, in_eq, eqI, Nat.one_ne_zero, Nat.reduceLeDiff, true_implies, not_true_eq_false, not_false_eq_true, false_implies, true_and, and_true]
  clear W'
  generalize nxH (sIA h 298 (up1 (hia h 298) (c + 7) (nI 1))) T q = h2 at *
  have k81 := R1.1.1.1
  generalize sIA h 298 (up1 (hia h 298) (c + 7) (nI 1)) = h1 at *
  simp (disch := omega) only [U_Mo_readOrder (cm _), SA, SB, SC1, SC2, SG, SK, SV, k81, k82, m21, m22, m23, NM, nI_add, true_implies, not_true_eq_false, not_false_eq_true, false_implies, true_and, and_true]
  have FF := F1.trans F2.T
  refine m_number (d + 3) (tBe T q) 1 20 (by omega) (by omega) R2.1 R2.2.2.2.1 _ (fun cn => ?_) (fun cn v => ?_)
  · rw [if_pos cn] at K
    simp only at K
    obtain ⟨b1, b2'⟩ := q_adv a2 (bN_ty cn)
    obtain ⟨R3, F3⟩ := MRz_nx R2
    have g4 : hia (nxH h2 T (tBe T q)) 298 = up1 (hia h 298) (c + 7) (nI 1) := by rw [F3.2.2.1 298 (by omega), g3]
    have g41 : hfi (nxH h2 T (tBe T q)) 273 21 = hfi h 273 21 := (MTF.f21 F3).trans g21
    generalize nxH h2 T (tBe T q) = h3 at *
    simp only [SV]
    refine m_ro197 d c (tBe T (tBe T q)) (nmV T (tBe T q)) hc R3 hk (by omega) cv _ _ lm Q ?_
    cases hp : pTs T 1 (tBe T (tBe T q)) k with
    | error f =>
      rw [hp] at K
      exact fun h2 f2 e2 => K h2 ((FF.trans F3.T).trans f2) e2
    | ok w =>
      obtain ⟨t, q3, k3⟩ := w
      rw [hp] at K
      intro h4 cf4 nc4 f4 r4 e21 cc4 cv4 n4 l4 k4 kx g5 g6 g7 tt
      exact K h4 cf4 nc4 ((FF.trans F3.T).trans f4) r4 (e21.trans g41) cc4 cv4 n4 l4 k4 (fun x a1 a2 a3 => by rw [kx x a1 a2 a3, g4, up1_n _ _ a3]) g5 g6 g7 tt
  · rw [if_neg (by rw [cn]; decide)] at K
    simp only at K
    obtain ⟨B1, B2⟩ := MRz_bd R2
    generalize bdH h2 = h3 at *
    simp only [SV]
    exact m_ro197E (d + 7) c hc B1 v _ _ lm Q (fun h4 f4 e4 => K h4 ((FF.trans B2.T).trans f4) e4)
theorem m_ro150 (d c q : Nat) (hc : c ≤ 110) {h : MH} {T : TP} {cf : CFt} {nc k : Nat} (r : MRz h T 1 q cf nc k) (hk : k ≤ 50) (hn : nc < q) (cv : CV 1 cf nc) (w1 w3 : Option Value) (lm : Nat × Nat) (Q : RT) (K : TlO h T cf nc c Q (match pTm T 1 q with
  | .error f => .error f
  | .ok (n, q2) => match pTs T 1 q2 k with
    | .error f => .error f
    | .ok (t, q3, k3) => .ok (n, t, q3, k3))) : WP cd_Mo_readOrder (callD (d + 7)) Q lm 150 [] [some (.ref 273), w1, some (.int (nI c)), w3] h := by
  cases cw : bW T q 20 with
  | false => exact m_ro150f d c q hc r hk hn cv cw w1 w3 lm Q K
  | true => exact m_ro150t d c q hc r hk hn cv cw w1 w3 lm Q K
