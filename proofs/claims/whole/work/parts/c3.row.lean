/-! ===== row: both loops ===== -/
set_option maxRecDepth 20000 in
theorem UC_Di_row_109 {G : GT} (hG : Gmono G) (R : RT) (lm : Nat × Nat) : WP cd_Di_row G R lm 0 = stp G R lm (2, 1, 0, 0, 0, 0, []) (WP cd_Di_row G R lm) ∧ WP cd_Di_row G R lm 1 = stp G R lm (58, 4, 7, 4, 0, 0, []) (WP cd_Di_row G R lm) ∧ WP cd_Di_row G R lm 4 = stp G R lm (58, 7, 4, 0, 0, 0, []) (WP cd_Di_row G R lm) ∧ WP cd_Di_row G R lm 7 = stp G R lm (5, 8, 1, 0, 0, 0, []) (WP cd_Di_row G R lm) ∧ WP cd_Di_row G R lm 8 = stp G R lm (2, 9, 1, 0, 0, 0, []) (WP cd_Di_row G R lm) ∧ WP cd_Di_row G R lm 9 = stp G R lm (56, 12, 5, 1, 0, 0, []) (WP cd_Di_row G R lm) ∧ WP cd_Di_row G R lm 12 = stp G R lm (4, 13, 2, 0, 0, 0, []) (WP cd_Di_row G R lm) ∧ WP cd_Di_row G R lm 13 = stp G R lm (1, 14, 2, 0, 0, 0, []) (WP cd_Di_row G R lm) ∧ WP cd_Di_row G R lm 14 = stp G R lm (48, 17, 24, 0, 0, 0, []) (WP cd_Di_row G R lm) ∧ WP cd_Di_row G R lm 17 = stp G R lm (2, 18, 0, 0, 0, 0, []) (WP cd_Di_row G R lm) ∧ WP cd_Di_row G R lm 18 = stp G R lm (7, 20, 0, 0, (-6), 0, []) (WP cd_Di_row G R lm) ∧ WP cd_Di_row G R lm 20 = stp G R lm (86, 23, 118, 1, 0, 0, [7]) (WP cd_Di_row G R lm) ∧ WP cd_Di_row G R lm 23 = stp G R lm (81, 24, 0, 0, 0, 0, []) (WP cd_Di_row G R lm) ∧ WP cd_Di_row G R lm 24 = stp G R lm (7, 25, 0, 0, nI 0, 0, []) (WP cd_Di_row G R lm) ∧ WP cd_Di_row G R lm 25 = stp G R lm (4, 26, 3, 0, 0, 0, []) (WP cd_Di_row G R lm) ∧ WP cd_Di_row G R lm 26 = stp G R lm (7, 27, 0, 0, nI 0, 0, []) (WP cd_Di_row G R lm) ∧ WP cd_Di_row G R lm 27 = stp G R lm (4, 29, 4, 0, 0, 0, []) (WP cd_Di_row G R lm) ∧ WP cd_Di_row G R lm 29 = stp G R lm (7, 30, 0, 0, nI 0, 0, []) (WP cd_Di_row G R lm) ∧ WP cd_Di_row G R lm 30 = stp G R lm (4, 32, 5, 0, 0, 0, []) (WP cd_Di_row G R lm) ∧ WP cd_Di_row G R lm 34 = stp G R lm (1, 35, 2, 0, 0, 0, []) (WP cd_Di_row G R lm) ∧ WP cd_Di_row G R lm 35 = stp G R lm (44, 38, 109, 0, 0, 0, []) (WP cd_Di_row G R lm) ∧ WP cd_Di_row G R lm 38 = stp G R lm (7, 39, 0, 0, (-1), 0, []) (WP cd_Di_row G R lm) ∧ WP cd_Di_row G R lm 39 = stp G R lm (4, 41, 6, 0, 0, 0, []) (WP cd_Di_row G R lm) ∧ WP cd_Di_row G R lm 41 = stp G R lm (1, 43, 5, 0, 0, 0, []) (WP cd_Di_row G R lm) ∧ WP cd_Di_row G R lm 43 = stp G R lm (7, 44, 0, 0, nI 2, 0, []) (WP cd_Di_row G R lm) ∧ WP cd_Di_row G R lm 44 = stp G R lm (12, 45, 0, 0, 0, 0, []) (WP cd_Di_row G R lm) ∧ WP cd_Di_row G R lm 45 = stp G R lm (1, 46, 2, 0, 0, 0, []) (WP cd_Di_row G R lm) ∧ WP cd_Di_row G R lm 46 = stp G R lm (44, 49, 89, 0, 0, 0, []) (WP cd_Di_row G R lm) ∧ WP cd_Di_row G R lm 49 = stp G R lm (2, 50, 0, 0, 0, 0, []) (WP cd_Di_row G R lm) ∧ WP cd_Di_row G R lm 50 = stp G R lm (2, 51, 0, 0, 0, 0, []) (WP cd_Di_row G R lm) ∧ WP cd_Di_row G R lm 51 = stp G R lm (58, 54, 7, 0, 0, 0, []) (WP cd_Di_row G R lm) ∧ WP cd_Di_row G R lm 54 = stp G R lm (58, 57, 6, 0, 0, 0, []) (WP cd_Di_row G R lm) ∧ WP cd_Di_row G R lm 57 = stp G R lm (7, 58, 0, 0, nI 0, 0, []) (WP cd_Di_row G R lm) ∧ WP cd_Di_row G R lm 58 = stp G R lm (7, 59, 0, 0, nI 0, 0, []) (WP cd_Di_row G R lm) ∧ WP cd_Di_row G R lm 59 = stp G R lm (2, 60, 1, 0, 0, 0, []) (WP cd_Di_row G R lm) ∧ WP cd_Di_row G R lm 60 = stp G R lm (58, 63, 5, 0, 0, 0, []) (WP cd_Di_row G R lm) ∧ WP cd_Di_row G R lm 63 = stp G R lm (1, 65, 5, 0, 0, 0, []) (WP cd_Di_row G R lm) ∧ WP cd_Di_row G R lm 65 = stp G R lm (62, 66, 0, 0, 0, 0, []) (WP cd_Di_row G R lm) ∧ WP cd_Di_row G R lm 66 = stp G R lm (2, 67, 1, 0, 0, 0, []) (WP cd_Di_row G R lm) ∧ WP cd_Di_row G R lm 67 = stp G R lm (58, 70, 5, 0, 0, 0, []) (WP cd_Di_row G R lm) ∧ WP cd_Di_row G R lm 70 = stp G R lm (1, 72, 5, 0, 0, 0, []) (WP cd_Di_row G R lm) ∧ WP cd_Di_row G R lm 72 = stp G R lm (7, 73, 0, 0, nI 1, 0, []) (WP cd_Di_row G R lm) ∧ WP cd_Di_row G R lm 73 = stp G R lm (12, 74, 0, 0, 0, 0, []) (WP cd_Di_row G R lm) ∧ WP cd_Di_row G R lm 74 = stp G R lm (62, 75, 0, 0, 0, 0, []) (WP cd_Di_row G R lm) ∧ WP cd_Di_row G R lm 75 = stp G R lm (2, 76, 1, 0, 0, 0, []) (WP cd_Di_row G R lm) ∧ WP cd_Di_row G R lm 76 = stp G R lm (58, 79, 5, 0, 0, 0, []) (WP cd_Di_row G R lm) ∧ WP cd_Di_row G R lm 79 = stp G R lm (1, 81, 5, 0, 0, 0, []) (WP cd_Di_row G R lm) ∧ WP cd_Di_row G R lm 81 = stp G R lm (7, 82, 0, 0, nI 2, 0, []) (WP cd_Di_row G R lm) ∧ WP cd_Di_row G R lm 82 = stp G R lm (12, 83, 0, 0, 0, 0, []) (WP cd_Di_row G R lm) ∧ WP cd_Di_row G R lm 83 = stp G R lm (62, 84, 0, 0, 0, 0, []) (WP cd_Di_row G R lm) ∧ WP cd_Di_row G R lm 84 = stp G R lm (86, 87, 120, 6, 0, 0, [7]) (WP cd_Di_row G R lm) ∧ WP cd_Di_row G R lm 87 = stp G R lm (4, 89, 6, 0, 0, 0, []) (WP cd_Di_row G R lm) ∧ WP cd_Di_row G R lm 89 = stp G R lm (1, 91, 6, 0, 0, 0, []) (WP cd_Di_row G R lm) ∧ WP cd_Di_row G R lm 91 = stp G R lm (50, 94, 100, 0, 0, 0, []) (WP cd_Di_row G R lm) ∧ WP cd_Di_row G R lm 94 = stp G R lm (11, 97, 4, 0, nI 1, 0, []) (WP cd_Di_row G R lm) ∧ WP cd_Di_row G R lm 97 = stp G R lm (40, 103, 0, 0, 0, 0, []) (WP cd_Di_row G R lm) ∧ WP cd_Di_row G R lm 100 = stp G R lm (11, 103, 3, 0, nI 1, 0, []) (WP cd_Di_row G R lm) ∧ WP cd_Di_row G R lm 103 = stp G R lm (11, 106, 5, 0, nI 3, 0, []) (WP cd_Di_row G R lm) ∧ WP cd_Di_row G R lm 106 = stp G R lm (40, 32, 0, 0, 0, 0, []) (WP cd_Di_row G R lm) ∧ WP cd_Di_row G R lm 110 = stp G R lm (7, 111, 0, 0, nI 0, 0, []) (WP cd_Di_row G R lm) ∧ WP cd_Di_row G R lm 111 = stp G R lm (59, 114, 5, 1, 0, 0, []) (WP cd_Di_row G R lm) ∧ WP cd_Di_row G R lm 114 = stp G R lm (2, 115, 0, 0, 0, 0, []) (WP cd_Di_row G R lm) ∧ WP cd_Di_row G R lm 115 = stp G R lm (1, 117, 4, 0, 0, 0, []) (WP cd_Di_row G R lm) ∧ WP cd_Di_row G R lm 117 = stp G R lm (59, 120, 7, 14, 0, 0, []) (WP cd_Di_row G R lm) ∧ WP cd_Di_row G R lm 120 = stp G R lm (2, 121, 0, 0, 0, 0, []) (WP cd_Di_row G R lm) ∧ WP cd_Di_row G R lm 121 = stp G R lm (58, 124, 7, 3, 0, 0, []) (WP cd_Di_row G R lm) ∧ WP cd_Di_row G R lm 124 = stp G R lm (86, 127, 5, 0, 0, 0, [0]) (WP cd_Di_row G R lm) ∧ WP cd_Di_row G R lm 127 = stp G R lm (2, 128, 0, 0, 0, 0, []) (WP cd_Di_row G R lm) ∧ WP cd_Di_row G R lm 128 = stp G R lm (1, 129, 3, 0, 0, 0, []) (WP cd_Di_row G R lm) ∧ WP cd_Di_row G R lm 129 = stp G R lm (86, 132, 117, 1, 0, 0, [7]) (WP cd_Di_row G R lm) ∧ WP cd_Di_row G R lm 132 = stp G R lm (81, 133, 0, 0, 0, 0, []) (WP cd_Di_row G R lm) := ⟨WP_eq hG rfl, WP_eq hG rfl, WP_eq hG rfl, WP_eq hG rfl, WP_eq hG rfl, WP_eq hG rfl, WP_eq hG rfl, WP_eq hG rfl, WP_eq hG rfl, WP_eq hG rfl, WP_eq hG rfl, WP_eq hG rfl, WP_eq hG rfl, WP_eq hG rfl, WP_eq hG rfl, WP_eq hG rfl, WP_eq hG rfl, WP_eq hG rfl, WP_eq hG rfl, WP_eq hG rfl, WP_eq hG rfl, WP_eq hG rfl, WP_eq hG rfl, WP_eq hG rfl, WP_eq hG rfl, WP_eq hG rfl, WP_eq hG rfl, WP_eq hG rfl, WP_eq hG rfl, WP_eq hG rfl, WP_eq hG rfl, WP_eq hG rfl, WP_eq hG rfl, WP_eq hG rfl, WP_eq hG rfl, WP_eq hG rfl, WP_eq hG rfl, WP_eq hG rfl, WP_eq hG rfl, WP_eq hG rfl, WP_eq hG rfl, WP_eq hG rfl, WP_eq hG rfl, WP_eq hG rfl, WP_eq hG rfl, WP_eq hG rfl, WP_eq hG rfl, WP_eq hG rfl, WP_eq hG rfl, WP_eq hG rfl, WP_eq hG rfl, WP_eq hG rfl, WP_eq hG rfl, WP_eq hG rfl, WP_eq hG rfl, WP_eq hG rfl, WP_eq hG rfl, WP_eq hG rfl, WP_eq hG rfl, WP_eq hG rfl, WP_eq hG rfl, WP_eq hG rfl, WP_eq hG rfl, WP_eq hG rfl, WP_eq hG rfl, WP_eq hG rfl, WP_eq hG rfl, WP_eq hG rfl, WP_eq hG rfl, WP_eq hG rfl, WP_eq hG rfl⟩
set_option maxRecDepth 20000 in
theorem UC_Mo_row_98 {G : GT} (hG : Gmono G) (R : RT) (lm : Nat × Nat) : WP cd_Mo_row G R lm 0 = stp G R lm (2, 1, 0, 0, 0, 0, []) (WP cd_Mo_row G R lm) ∧ WP cd_Mo_row G R lm 1 = stp G R lm (7, 2, 0, 0, nI 0, 0, []) (WP cd_Mo_row G R lm) ∧ WP cd_Mo_row G R lm 2 = stp G R lm (59, 5, 8, 0, 0, 0, []) (WP cd_Mo_row G R lm) ∧ WP cd_Mo_row G R lm 5 = stp G R lm (2, 6, 0, 0, 0, 0, []) (WP cd_Mo_row G R lm) ∧ WP cd_Mo_row G R lm 6 = stp G R lm (56, 9, 8, 13, 0, 0, []) (WP cd_Mo_row G R lm) ∧ WP cd_Mo_row G R lm 9 = stp G R lm (4, 10, 1, 0, 0, 0, []) (WP cd_Mo_row G R lm) ∧ WP cd_Mo_row G R lm 10 = stp G R lm (2, 11, 0, 0, 0, 0, []) (WP cd_Mo_row G R lm) ∧ WP cd_Mo_row G R lm 11 = stp G R lm (7, 12, 0, 0, nI 0, 0, []) (WP cd_Mo_row G R lm) ∧ WP cd_Mo_row G R lm 12 = stp G R lm (59, 15, 8, 13, 0, 0, []) (WP cd_Mo_row G R lm) ∧ WP cd_Mo_row G R lm 15 = stp G R lm (1, 16, 1, 0, 0, 0, []) (WP cd_Mo_row G R lm) ∧ WP cd_Mo_row G R lm 16 = stp G R lm (48, 19, 26, 0, 0, 0, []) (WP cd_Mo_row G R lm) ∧ WP cd_Mo_row G R lm 19 = stp G R lm (2, 20, 0, 0, 0, 0, []) (WP cd_Mo_row G R lm) ∧ WP cd_Mo_row G R lm 20 = stp G R lm (7, 22, 0, 0, (-6), 0, []) (WP cd_Mo_row G R lm) ∧ WP cd_Mo_row G R lm 22 = stp G R lm (86, 25, 133, 1, 0, 0, [8]) (WP cd_Mo_row G R lm) ∧ WP cd_Mo_row G R lm 25 = stp G R lm (81, 26, 0, 0, 0, 0, []) (WP cd_Mo_row G R lm) ∧ WP cd_Mo_row G R lm 26 = stp G R lm (2, 27, 0, 0, 0, 0, []) (WP cd_Mo_row G R lm) ∧ WP cd_Mo_row G R lm 27 = stp G R lm (7, 28, 0, 0, nI 0, 0, []) (WP cd_Mo_row G R lm) ∧ WP cd_Mo_row G R lm 28 = stp G R lm (59, 31, 8, 11, 0, 0, []) (WP cd_Mo_row G R lm) ∧ WP cd_Mo_row G R lm 31 = stp G R lm (7, 32, 0, 0, nI 0, 0, []) (WP cd_Mo_row G R lm) ∧ WP cd_Mo_row G R lm 32 = stp G R lm (4, 33, 2, 0, 0, 0, []) (WP cd_Mo_row G R lm) ∧ WP cd_Mo_row G R lm 33 = stp G R lm (7, 34, 0, 0, nI 0, 0, []) (WP cd_Mo_row G R lm) ∧ WP cd_Mo_row G R lm 34 = stp G R lm (4, 35, 3, 0, 0, 0, []) (WP cd_Mo_row G R lm) ∧ WP cd_Mo_row G R lm 36 = stp G R lm (1, 37, 1, 0, 0, 0, []) (WP cd_Mo_row G R lm) ∧ WP cd_Mo_row G R lm 37 = stp G R lm (44, 40, 98, 0, 0, 0, []) (WP cd_Mo_row G R lm) ∧ WP cd_Mo_row G R lm 40 = stp G R lm (1, 41, 3, 0, 0, 0, []) (WP cd_Mo_row G R lm) ∧ WP cd_Mo_row G R lm 41 = stp G R lm (7, 42, 0, 0, nI 2, 0, []) (WP cd_Mo_row G R lm) ∧ WP cd_Mo_row G R lm 42 = stp G R lm (12, 43, 0, 0, 0, 0, []) (WP cd_Mo_row G R lm) ∧ WP cd_Mo_row G R lm 43 = stp G R lm (1, 44, 1, 0, 0, 0, []) (WP cd_Mo_row G R lm) ∧ WP cd_Mo_row G R lm 44 = stp G R lm (44, 47, 82, 0, 0, 0, []) (WP cd_Mo_row G R lm) ∧ WP cd_Mo_row G R lm 47 = stp G R lm (2, 48, 0, 0, 0, 0, []) (WP cd_Mo_row G R lm) ∧ WP cd_Mo_row G R lm 48 = stp G R lm (2, 49, 0, 0, 0, 0, []) (WP cd_Mo_row G R lm) ∧ WP cd_Mo_row G R lm 49 = stp G R lm (58, 52, 8, 12, 0, 0, []) (WP cd_Mo_row G R lm) ∧ WP cd_Mo_row G R lm 52 = stp G R lm (1, 53, 3, 0, 0, 0, []) (WP cd_Mo_row G R lm) ∧ WP cd_Mo_row G R lm 53 = stp G R lm (62, 54, 0, 0, 0, 0, []) (WP cd_Mo_row G R lm) ∧ WP cd_Mo_row G R lm 54 = stp G R lm (2, 55, 0, 0, 0, 0, []) (WP cd_Mo_row G R lm) ∧ WP cd_Mo_row G R lm 55 = stp G R lm (58, 58, 8, 12, 0, 0, []) (WP cd_Mo_row G R lm) ∧ WP cd_Mo_row G R lm 58 = stp G R lm (1, 59, 3, 0, 0, 0, []) (WP cd_Mo_row G R lm) ∧ WP cd_Mo_row G R lm 59 = stp G R lm (7, 60, 0, 0, nI 1, 0, []) (WP cd_Mo_row G R lm) ∧ WP cd_Mo_row G R lm 60 = stp G R lm (12, 61, 0, 0, 0, 0, []) (WP cd_Mo_row G R lm) ∧ WP cd_Mo_row G R lm 61 = stp G R lm (62, 62, 0, 0, 0, 0, []) (WP cd_Mo_row G R lm) ∧ WP cd_Mo_row G R lm 62 = stp G R lm (2, 63, 0, 0, 0, 0, []) (WP cd_Mo_row G R lm) ∧ WP cd_Mo_row G R lm 63 = stp G R lm (58, 66, 8, 12, 0, 0, []) (WP cd_Mo_row G R lm) ∧ WP cd_Mo_row G R lm 66 = stp G R lm (1, 67, 3, 0, 0, 0, []) (WP cd_Mo_row G R lm) ∧ WP cd_Mo_row G R lm 67 = stp G R lm (7, 68, 0, 0, nI 2, 0, []) (WP cd_Mo_row G R lm) ∧ WP cd_Mo_row G R lm 68 = stp G R lm (12, 69, 0, 0, 0, 0, []) (WP cd_Mo_row G R lm) ∧ WP cd_Mo_row G R lm 69 = stp G R lm (62, 70, 0, 0, 0, 0, []) (WP cd_Mo_row G R lm) ∧ WP cd_Mo_row G R lm 70 = stp G R lm (86, 73, 209, 3, 0, 0, [8]) (WP cd_Mo_row G R lm) ∧ WP cd_Mo_row G R lm 73 = stp G R lm (49, 76, 82, 0, 0, 0, []) (WP cd_Mo_row G R lm) ∧ WP cd_Mo_row G R lm 76 = stp G R lm (11, 79, 2, 0, nI 1, 0, []) (WP cd_Mo_row G R lm) ∧ WP cd_Mo_row G R lm 79 = stp G R lm (40, 92, 0, 0, 0, 0, []) (WP cd_Mo_row G R lm) ∧ WP cd_Mo_row G R lm 82 = stp G R lm (2, 83, 0, 0, 0, 0, []) (WP cd_Mo_row G R lm) ∧ WP cd_Mo_row G R lm 83 = stp G R lm (37, 84, 0, 0, 0, 0, []) (WP cd_Mo_row G R lm) ∧ WP cd_Mo_row G R lm 84 = stp G R lm (56, 87, 8, 11, 0, 0, []) (WP cd_Mo_row G R lm) ∧ WP cd_Mo_row G R lm 87 = stp G R lm (7, 88, 0, 0, nI 1, 0, []) (WP cd_Mo_row G R lm) ∧ WP cd_Mo_row G R lm 88 = stp G R lm (12, 89, 0, 0, 0, 0, []) (WP cd_Mo_row G R lm) ∧ WP cd_Mo_row G R lm 89 = stp G R lm (59, 92, 8, 11, 0, 0, []) (WP cd_Mo_row G R lm) ∧ WP cd_Mo_row G R lm 92 = stp G R lm (11, 95, 3, 0, nI 3, 0, []) (WP cd_Mo_row G R lm) ∧ WP cd_Mo_row G R lm 95 = stp G R lm (40, 35, 0, 0, 0, 0, []) (WP cd_Mo_row G R lm) ∧ WP cd_Mo_row G R lm 99 = stp G R lm (7, 100, 0, 0, nI 0, 0, []) (WP cd_Mo_row G R lm) ∧ WP cd_Mo_row G R lm 100 = stp G R lm (59, 103, 8, 8, 0, 0, []) (WP cd_Mo_row G R lm) ∧ WP cd_Mo_row G R lm 103 = stp G R lm (2, 104, 0, 0, 0, 0, []) (WP cd_Mo_row G R lm) ∧ WP cd_Mo_row G R lm 104 = stp G R lm (1, 105, 2, 0, 0, 0, []) (WP cd_Mo_row G R lm) ∧ WP cd_Mo_row G R lm 105 = stp G R lm (86, 108, 133, 1, 0, 0, [8]) (WP cd_Mo_row G R lm) ∧ WP cd_Mo_row G R lm 108 = stp G R lm (81, 109, 0, 0, 0, 0, []) (WP cd_Mo_row G R lm) := ⟨WP_eq hG rfl, WP_eq hG rfl, WP_eq hG rfl, WP_eq hG rfl, WP_eq hG rfl, WP_eq hG rfl, WP_eq hG rfl, WP_eq hG rfl, WP_eq hG rfl, WP_eq hG rfl, WP_eq hG rfl, WP_eq hG rfl, WP_eq hG rfl, WP_eq hG rfl, WP_eq hG rfl, WP_eq hG rfl, WP_eq hG rfl, WP_eq hG rfl, WP_eq hG rfl, WP_eq hG rfl, WP_eq hG rfl, WP_eq hG rfl, WP_eq hG rfl, WP_eq hG rfl, WP_eq hG rfl, WP_eq hG rfl, WP_eq hG rfl, WP_eq hG rfl, WP_eq hG rfl, WP_eq hG rfl, WP_eq hG rfl, WP_eq hG rfl, WP_eq hG rfl, WP_eq hG rfl, WP_eq hG rfl, WP_eq hG rfl, WP_eq hG rfl, WP_eq hG rfl, WP_eq hG rfl, WP_eq hG rfl, WP_eq hG rfl, WP_eq hG rfl, WP_eq hG rfl, WP_eq hG rfl, WP_eq hG rfl, WP_eq hG rfl, WP_eq hG rfl, WP_eq hG rfl, WP_eq hG rfl, WP_eq hG rfl, WP_eq hG rfl, WP_eq hG rfl, WP_eq hG rfl, WP_eq hG rfl, WP_eq hG rfl, WP_eq hG rfl, WP_eq hG rfl, WP_eq hG rfl, WP_eq hG rfl, WP_eq hG rfl, WP_eq hG rfl, WP_eq hG rfl, WP_eq hG rfl, WP_eq hG rfl⟩
def rwS (Lo : Option LWS) (T : TP) (st : RW × Nat × Nat) (k : Nat) : RW × Nat × Nat :=
  if k + 2 < T.2 then ((aAct Lo st.1 0 (nI (T.1 k)) (nI (T.1 (k + 1))) (nI (T.1 (k + 2)))).2, if (aAct Lo st.1 0 (nI (T.1 k)) (nI (T.1 (k + 1))) (nI (T.1 (k + 2)))).1 < nI 0 then (st.2.1, st.2.2 + 1) else (st.2.1 + 1, st.2.2)) else (st.1, st.2.1, st.2.2 + 1)
def rwL (Lo : Option LWS) (T : TP) : Nat → Nat → RW × Nat × Nat → RW × Nat × Nat
  | 0, _, st => st
  | m + 1, k, st => if k < T.2 then rwL Lo T m (k + 3) (rwS Lo T st k) else st
theorem rwL_s (Lo : Option LWS) (T : TP) (m k : Nat) (st : RW × Nat × Nat) : rwL Lo T (m + 1) k st = if k < T.2 then rwL Lo T m (k + 3) (rwS Lo T st k) else st := rfl
theorem rwL_z (Lo : Option LWS) (T : TP) (m k : Nat) (st : RW × Nat × Nat) (h : ¬ k < T.2) : rwL Lo T m k st = st := by
  cases m with
  | zero => rfl
  | succ m => rw [rwL_s, if_neg h]
theorem LV_p {h : MH} {p q : RW} {Lo : Option LWS} {lv : Value} (lo : LO p q) (l : LV h p Lo lv) : LV h q Lo lv := by
  obtain ⟨l1, l2, ⟨md, m1, m2⟩, l4⟩ := l
  refine ⟨l1.trans (lo 2 (by omega)).symm, l2.trans (lo 4 (by omega)).symm, ⟨md, m1, (lo 4 (by omega)).trans m2⟩, ?_⟩
  cases Lo with
  | none => exact ⟨(lo 2 (by omega)).trans l4.1, l4.2⟩
  | some L =>
    obtain ⟨f, nl, a, a1, r⟩ := l4
    exact ⟨f, nl, a, (lo 2 (by omega)).trans a1, r⟩
theorem rwS_ok {Lo : Option LWS} {T : TP} {st : RW × Nat × Nat} {k : Nat} (v : IV st.1) : IV (rwS Lo T st k).1 ∧ LO st.1 (rwS Lo T st k).1 ∧ (rwS Lo T st k).2.1 + (rwS Lo T st k).2.2 = st.2.1 + st.2.2 + 1 := by
  unfold rwS
  split
  · obtain ⟨x, y⟩ := aAct_ok (Lo := Lo) (one := nI (T.1 k)) (other := nI (T.1 (k + 1))) (costs := nI (T.1 (k + 2))) (show 0 < 3 by omega) v
    refine ⟨x, y, ?_⟩
    dsimp only
    split
    · dsimp only; omega
    · dsimp only; omega
  · exact ⟨v, fun _ _ => rfl, by dsimp only; omega⟩
theorem rwL_ok {Lo : Option LWS} {T : TP} : ∀ (m k : Nat) (st : RW × Nat × Nat), IV st.1 → IV (rwL Lo T m k st).1 ∧ LO st.1 (rwL Lo T m k st).1
  | 0, _, _, v => ⟨v, fun _ _ => rfl⟩
  | m + 1, k, st, v => by
    rw [rwL_s]
    split
    · obtain ⟨a, b, -⟩ := rwS_ok (Lo := Lo) (T := T) (k := k) v
      obtain ⟨x, y⟩ := rwL_ok m (k + 3) _ a
      exact ⟨x, b.trans y⟩
    · exact ⟨v, fun _ _ => rfl⟩
theorem x_l_row (d nx n : Nat) (hnx : nx < 17) (hn : n ≤ 16) {Lo : Option LWS} {lv : Value} {T : TP} {h : MH} {p : RW} (s : XS h) (l : LV h p Lo lv) (h2 : hfi h 40 2 = nI nx) (h3 : hfi h 40 3 = nI n) (tb : TB (hia h 215) T) (Q : RT) (lm : Nat × Nat) : ∀ (m k : Nat) (H : MH) (st : RW × Nat × Nat) (w6 : Option Value), T.2 ≤ k + 3 * m ∧ k ≤ 1000 → st.2.1 + st.2.2 ≤ k → AR 26 nx h H → hfi H 40 = hfi h 40 → NeV H 26 st.1 → IV st.1 → LO p st.1 → (∀ H' w5 w6, AR 26 nx h H' → hfi H' 40 = hfi h 40 → NeV H' 26 (rwL Lo T m k st).1 → WP cd_Di_row (callD (d + 7)) Q lm 109 [] [some (.ref 24), some (.ref 214), some (.int (nI T.2)), some (.int (nI (rwL Lo T m k st).2.1)), some (.int (nI (rwL Lo T m k st).2.2)), w5, w6] H') → WP cd_Di_row (callD (d + 7)) Q lm 32 [] [some (.ref 24), some (.ref 214), some (.int (nI T.2)), some (.int (nI st.2.1)), some (.int (nI st.2.2)), some (.int (nI k)), w6] H := by
  intro m
  induction m with
  | zero =>
    intro k H st w6 e _ ar e40 V v lo K
    have t4 := tb.1
    rw [U_Di_row_32 (cm _)]
    by_cases c : k < T.2
    · exact absurd c (by omega)
    · have Y := K H (some (.int (nI k))) w6 ar e40 V
      simp (disch := omega) only [UC_Di_row_109 (cm _), SA, SB, SC1, SC2, SG, SK, SV, leI, show T.2 ≤ k by omega, true_or, or_true, true_implies, not_true_eq_false, not_false_eq_true, false_implies, true_and, and_true]
      exact Y
  | succ m ih =>
    intro k H st w6 e ab ar e40 V v lo K
    have t4 := tb.1
    by_cases c : k < T.2
    · rw [rwL_s, if_pos c] at K
      have sH := XS_e ar.1.2.2.2.1 s
      have so := (sH).1
      unfold XSo at so
      have sw := WoS_25 (sH)
      unfold WoS at sw
      simp only [Nat.reduceAdd] at sw
      have sr := sH.2.1
      unfold XSr at sr
      have hS := sH.2.2.2.2.2.1.1
      have i215 : hia H 215 = hia h 215 := ar.2.2 215 (by omega) (by omega) (by omega) (by omega) (by omega)
      obtain ⟨rv, rlo, rab⟩ := rwS_ok (Lo := Lo) (T := T) (k := k) v
      rw [U_Di_row_32 (cm _)]
      by_cases c2 : k + 2 < T.2
      · have b0 : hia H 215 k = nI (T.1 k) := by rw [i215]; exact (tb.2 k (by omega)).1
        have b1 : hia H 215 (k + 1) = nI (T.1 (k + 1)) := by rw [i215]; exact (tb.2 (k + 1) (by omega)).1
        have b2 : hia H 215 (k + 2) = nI (T.1 (k + 2)) := by rw [i215]; exact (tb.2 (k + 2) (by omega)).1
        have er : rwS Lo T st k = ((aAct Lo st.1 0 (nI (T.1 k)) (nI (T.1 (k + 1))) (nI (T.1 (k + 2)))).2, if (aAct Lo st.1 0 (nI (T.1 k)) (nI (T.1 (k + 1))) (nI (T.1 (k + 2)))).1 < nI 0 then (st.2.1, st.2.2 + 1) else (st.2.1 + 1, st.2.2)) := if_pos c2
        have ACT := fun Q kk => x_act d 26 nx n 0 0 (by omega) (by omega) (Or.inl rfl) hnx hn sH hS V v (LV_p lo (ar.L (by omega) (by omega) hnx l)) (by rw [e40]; exact h2) (by rw [e40]; exact h3) (nI (T.1 k)) (nI (T.1 (k + 1))) (nI (T.1 (k + 2))) Q kk
        simp (disch := omega) only [UC_Di_row_109 (cm _), SA, SB, SC1, SC2, SG, SK, SV, so, sw, sr, b0, b1, b2, leI, show ¬ T.2 ≤ k by omega, show ¬ T.2 ≤ k + 2 by omega, nI_add, nI_clamp, in_eq, Nat.reduceLeDiff, true_or, or_true, true_implies, not_true_eq_false, not_false_eq_true, false_implies, true_and, and_true]
        refine ACT _ (fun H2 ar2 V2 hk => ?_)
        have f40 : hfi H2 40 = hfi h 40 := by rw [(hk.2 (fun z => absurd z.1 (by omega))).2]; exact e40
        have ih2 := fun st' (q : rwS Lo T st k = st') w6 => ih (k + 3) H2 st' w6 (by omega) (by rw [← q]; omega) (ar.trans ar2) f40 (by rw [← q, er]; exact V2) (by rw [← q]; exact rv) (by rw [← q]; exact lo.trans rlo) (by rw [← q]; exact K)
        by_cases cv : (aAct Lo st.1 0 (nI (T.1 k)) (nI (T.1 (k + 1))) (nI (T.1 (k + 2)))).1 < nI 0
        · rw [if_pos cv] at er
          have Y := ih2 _ er (some (.int (aAct Lo st.1 0 (nI (T.1 k)) (nI (T.1 (k + 1))) (nI (T.1 (k + 2)))).1))
          have cv' : ¬ nI 0 ≤ (aAct Lo st.1 0 (nI (T.1 k)) (nI (T.1 (k + 1))) (nI (T.1 (k + 2)))).1 := Int32.not_le.mpr cv
          simp (disch := omega) only [UC_Di_row_109 (cm _), SA, SB, SC1, SC2, SG, SK, SV, cv', nI_add, true_or, or_true, true_implies, not_true_eq_false, not_false_eq_true, false_implies, true_and, and_true]
          exact Y
        · rw [if_neg cv] at er
          have Y := ih2 _ er (some (.int (aAct Lo st.1 0 (nI (T.1 k)) (nI (T.1 (k + 1))) (nI (T.1 (k + 2)))).1))
          have cv' : nI 0 ≤ (aAct Lo st.1 0 (nI (T.1 k)) (nI (T.1 (k + 1))) (nI (T.1 (k + 2)))).1 := Int32.not_lt.mp cv
          simp (disch := omega) only [UC_Di_row_109 (cm _), SA, SB, SC1, SC2, SG, SK, SV, cv', nI_add, true_or, or_true, true_implies, not_true_eq_false, not_false_eq_true, false_implies, true_and, and_true]
          exact Y
      · have er : rwS Lo T st k = (st.1, st.2.1, st.2.2 + 1) := if_neg c2
        have Y := ih (k + 3) H (rwS Lo T st k) (some (.int (-1))) (by omega) (by omega) ar e40 (by rw [er]; exact V) rv (lo.trans rlo) K
        rw [er] at Y
        have z : ¬ nI 0 ≤ (-1 : Int32) := by decide
        simp (disch := omega) only [UC_Di_row_109 (cm _), SA, SB, SC1, SC2, SG, SK, SV, z, leI, show ¬ T.2 ≤ k by omega, show T.2 ≤ k + 2 by omega, nI_add, true_or, or_true, true_implies, not_true_eq_false, not_false_eq_true, false_implies, true_and, and_true]
        exact Y
    · rw [rwL_z Lo T (m + 1) k st c] at K
      have Y := K H (some (.int (nI k))) w6 ar e40 V
      rw [U_Di_row_32 (cm _)]
      simp (disch := omega) only [UC_Di_row_109 (cm _), SA, SB, SC1, SC2, SG, SK, SV, leI, show T.2 ≤ k by omega, true_or, or_true, true_implies, not_true_eq_false, not_false_eq_true, false_implies, true_and, and_true]
      exact Y
/-- what acts of the reference leave alone, but for a field e -/
def MFy (e : Nat) (h H : MH) : Prop := (hsz H = hsz h ∧ hcc H = hcc h ∧ hcu H = hcu h ∧ SHE h H) ∧ (∀ a, a ≠ 273 → hfi H a = hfi h a) ∧ (∀ k, k ≠ 8 → k ≠ 34 → k ≠ 38 → k ≠ e → hfi H 273 k = hfi h 273 k) ∧ (∀ a, a ≠ 275 → a ≠ 278 → a ≠ 279 → hia H a = hia h a) ∧ (∀ a, a ≠ 291 → a ≠ 293 → hja H a = hja h a)
theorem MFy.refl (e : Nat) (h : MH) : MFy e h h := ⟨⟨rfl, rfl, rfl, SHE.refl h⟩, fun _ _ => rfl, fun _ _ _ _ _ => rfl, fun _ _ _ _ => rfl, fun _ _ _ => rfl⟩
theorem MFy.trans {e : Nat} {a b c : MH} (x : MFy e a b) (y : MFy e b c) : MFy e a c := ⟨⟨y.1.1.trans x.1.1, y.1.2.1.trans x.1.2.1, y.1.2.2.1.trans x.1.2.2.1, x.1.2.2.2.trans y.1.2.2.2⟩, fun p q => (y.2.1 p q).trans (x.2.1 p q), fun p q r s t => (y.2.2.1 p q r s t).trans (x.2.2.1 p q r s t), fun p q r s => (y.2.2.2.1 p q r s).trans (x.2.2.2.1 p q r s), fun p q r => (y.2.2.2.2 p q r).trans (x.2.2.2.2 p q r)⟩
theorem MaF.F (e : Nat) {h h3 : MH} {p q : RW} {n kd : Nat} {kept : Prop} (m : MaF h h3 p q n kd kept) : MFy e h h3 := ⟨m.1, m.2.1, fun k a b c _ => m.2.2.1 k a b c, m.2.2.2.1, m.2.2.2.2.1⟩
theorem rmN_le {n : Nat} (h : n ≤ 16) : rmN n ≤ 16 := by unfold rmN; split <;> omega
theorem MaF.n {h h3 : MH} {p q : RW} {n kd : Nat} {kept : Prop} (hn : n ≤ 16) (h8 : hfi h 273 8 = nI n) (m : MaF h h3 p q n kd kept) : ∃ n', n' ≤ 16 ∧ hfi h3 273 8 = nI n' := by
  by_cases c : kept
  · exact ⟨rmN n, rmN_le hn, (m.2.2.2.2.2.2.1 c).2.2⟩
  · exact ⟨n, hn, (m.2.2.2.2.2.2.2.1 c).2.2.trans h8⟩
theorem RN_lo {p q : RW} (lo : LO p q) (r : RN p) : RN q := by
  obtain ⟨md, m1, m2⟩ := r
  exact ⟨md, m1, (lo 4 (by omega)).trans m2⟩
theorem MFy_bl (h : MH) (v : Int32) : MFy 11 h (sFI h 273 (up1 (hfi h 273) 11 v)) := ⟨(she_fi h 273 _).1, fun a ha => hfi_nn _ _ ha, fun k _ _ _ hk => by rw [hfi_s, up1_n _ _ hk], fun a _ _ _ => by rw [ia_fi], fun a _ _ => by rw [(she_fi h 273 _).2]⟩
theorem m_l_row (d : Nat) {Lo : Option LWS} {T : TP} {h : MH} (hM : MoS h) (h20 : hfi h 273 20 = nI 0) (tb : TB (hia h 282) T) (Q : RT) (lm : Nat × Nat) : ∀ (m k : Nat) (H : MH) (st : RW × Nat × Nat), T.2 ≤ k + 3 * m ∧ k ≤ 1000 → st.2.1 + st.2.2 ≤ k → MFy 11 h H → hia H 275 = st.1 → (∃ n, n ≤ 16 ∧ hfi H 273 8 = nI n) → hfi H 273 11 = nI st.2.2 → IV st.1 → FO st.1 Lo → RN st.1 → (∀ H' w3, MFy 11 h H' → hia H' 275 = (rwL Lo T m k st).1 → hfi H' 273 11 = nI (rwL Lo T m k st).2.2 → WP cd_Mo_row (callD (d + 9)) Q lm 98 [] [some (.ref 273), some (.int (nI T.2)), some (.int (nI (rwL Lo T m k st).2.1)), w3] H') → WP cd_Mo_row (callD (d + 9)) Q lm 35 [] [some (.ref 273), some (.int (nI T.2)), some (.int (nI st.2.1)), some (.int (nI k))] H := by
  intro m
  induction m with
  | zero =>
    intro k H st e ab mf hp hn h11 v fo rn K
    have t4 := tb.1
    have Y := K H (some (.int (nI k))) mf hp h11
    rw [U_Mo_row_35 (cm _)]
    simp (disch := omega) only [UC_Mo_row_98 (cm _), SA, SB, SC1, SC2, SG, SK, SV, leI, show T.2 ≤ k by omega, true_or, or_true, true_implies, not_true_eq_false, not_false_eq_true, false_implies, true_and, and_true]
    exact Y
  | succ m ih =>
    intro k H st e ab mf hp hn h11 v fo rn K
    have t4 := tb.1
    by_cases c : k < T.2
    · rw [rwL_s, if_pos c] at K
      have MH' := mf.1.2.2.2.M hM
      obtain ⟨k8, -, -, -, -, -, -, -, -, ⟨u1, u2, u3⟩, -⟩ := id MH'
      have i282 : hia H 282 = hia h 282 := mf.2.2.2.1 282 (by omega) (by omega) (by omega)
      have h20' : hfi H 273 20 = nI 0 := (mf.2.2.1 20 (by omega) (by omega) (by omega) (by omega)).trans h20
      obtain ⟨rv, rlo, rab⟩ := rwS_ok (Lo := Lo) (T := T) (k := k) v
      obtain ⟨n, n16, hn8⟩ := hn
      rw [U_Mo_row_35 (cm _)]
      by_cases c2 : k + 2 < T.2
      · have b0 : hia H 282 k = nI (T.1 k) := by rw [i282]; exact (tb.2 k (by omega)).1
        have b1 : hia H 282 (k + 1) = nI (T.1 (k + 1)) := by rw [i282]; exact (tb.2 (k + 1) (by omega)).1
        have b2 : hia H 282 (k + 2) = nI (T.1 (k + 2)) := by rw [i282]; exact (tb.2 (k + 2) (by omega)).1
        have er : rwS Lo T st k = ((aAct Lo st.1 0 (nI (T.1 k)) (nI (T.1 (k + 1))) (nI (T.1 (k + 2)))).2, if (aAct Lo st.1 0 (nI (T.1 k)) (nI (T.1 (k + 1))) (nI (T.1 (k + 2)))).1 < nI 0 then (st.2.1, st.2.2 + 1) else (st.2.1 + 1, st.2.2)) := if_pos c2
        simp (disch := omega) only [UC_Mo_row_98 (cm _), SA, SB, SC1, SC2, SG, SK, SV, k8, u1, u2, u3, b0, b1, b2, leI, show ¬ T.2 ≤ k by omega, show ¬ T.2 ≤ k + 2 by omega, nI_add, nI_clamp, in_eq, Nat.reduceLeDiff, true_or, or_true, true_implies, not_true_eq_false, not_false_eq_true, false_implies, true_and, and_true]
        refine now_link (Lo := Lo) d n ⟨MH', hp, rfl, rfl, hn8, n16, h20'⟩ v fo rn (nI (T.1 k)) (nI (T.1 (k + 1))) (nI (T.1 (k + 2))) _ (fun H2 m2 => ?_)
        have mf2 := mf.trans (m2.F 11)
        have n2 := m2.n n16 hn8
        have hp2 : hia H2 275 = (rwS Lo T st k).1 := by rw [er]; exact m2.2.2.2.2.2.1
        have h112 : hfi H2 273 11 = nI st.2.2 := (m2.2.2.1 11 (by omega) (by omega) (by omega)).trans h11
        have fo2 := FO_lo rlo fo
        have rn2 := RN_lo rlo rn
        by_cases cv : (aAct Lo st.1 0 (nI (T.1 k)) (nI (T.1 (k + 1))) (nI (T.1 (k + 2)))).1 < nI 0
        · rw [if_pos cv] at er
          have k82 := (mf2.1.2.2.2.M hM).1
          have mf3 := mf2.trans (MFy_bl H2 (nI (st.2.2 + 1)))
          have g1 := fi_g H2 273 (up1 (hfi H2 273) 11 (nI (st.2.2 + 1)))
          generalize hb : sFI H2 273 (up1 (hfi H2 273) 11 (nI (st.2.2 + 1))) = H3 at *
          have Y := ih (k + 3) H3 (rwS Lo T st k) (by omega) (by omega) mf3 (by rw [g1.2.1]; exact hp2) (by obtain ⟨n', a, b⟩ := n2; exact ⟨n', a, by rw [g1.2.2.2.1, up1_n _ _ (by omega)]; exact b⟩) (by rw [g1.2.2.2.1, up1_s, er]) rv fo2 rn2 K
          rw [er] at Y
          simp (disch := omega) only [UC_Mo_row_98 (cm _), SA, SB, SC1, SC2, SG, SK, SV, cv, k82, h112, hb, nI_add, Nat.reduceLeDiff, true_or, or_true, true_implies, not_true_eq_false, not_false_eq_true, false_implies, true_and, and_true]
          exact Y
        · rw [if_neg cv] at er
          have Y := ih (k + 3) H2 (rwS Lo T st k) (by omega) (by omega) mf2 hp2 n2 (by rw [er]; exact h112) rv fo2 rn2 K
          rw [er] at Y
          simp (disch := omega) only [UC_Mo_row_98 (cm _), SA, SB, SC1, SC2, SG, SK, SV, cv, nI_add, true_or, or_true, true_implies, not_true_eq_false, not_false_eq_true, false_implies, true_and, and_true]
          exact Y
      · have er : rwS Lo T st k = (st.1, st.2.1, st.2.2 + 1) := if_neg c2
        have mf3 := mf.trans (MFy_bl H (nI (st.2.2 + 1)))
        have g1 := fi_g H 273 (up1 (hfi H 273) 11 (nI (st.2.2 + 1)))
        generalize hb : sFI H 273 (up1 (hfi H 273) 11 (nI (st.2.2 + 1))) = H3 at *
        have Y := ih (k + 3) H3 (rwS Lo T st k) (by omega) (by omega) mf3 (by rw [g1.2.1, er]; exact hp) ⟨n, n16, by rw [g1.2.2.2.1, up1_n _ _ (by omega)]; exact hn8⟩ (by rw [g1.2.2.2.1, up1_s, er]) rv (FO_lo rlo fo) (RN_lo rlo rn) K
        rw [er] at Y
        simp (disch := omega) only [UC_Mo_row_98 (cm _), SA, SB, SC1, SC2, SG, SK, SV, k8, h11, hb, leI, show ¬ T.2 ≤ k by omega, show T.2 ≤ k + 2 by omega, nI_add, Nat.reduceLeDiff, true_or, or_true, true_implies, not_true_eq_false, not_false_eq_true, false_implies, true_and, and_true]
        exact Y
    · rw [rwL_z Lo T (m + 1) k st c] at K
      have Y := K H (some (.int (nI k))) mf hp h11
      rw [U_Mo_row_35 (cm _)]
      simp (disch := omega) only [UC_Mo_row_98 (cm _), SA, SB, SC1, SC2, SG, SK, SV, leI, show T.2 ≤ k by omega, true_or, or_true, true_implies, not_true_eq_false, not_false_eq_true, false_implies, true_and, and_true]
      exact Y
theorem WV_lo {h h5 : MH} {p q : RW} (w : WV h 25 p) (lo : LO p q) (V : NeV h5 26 q) (ivq : IV q) (hz : hsz h ≤ hsz h5) (f25 : hfi h5 25 = hfi h 25) (r36 : hra h5 36 = hra h 36) (c37 : hia h5 37 = hia h 37) (c38 : hia h5 38 = hia h 38) (X : ∀ x, 300 ≤ x → x < hsz h → hkd h5 x = hkd h x ∧ hln h5 x = hln h x ∧ hfr h5 x = hfr h x ∧ hfi h5 x = hfi h x ∧ hia h5 x = hia h x) : WV h5 25 q := by
  obtain ⟨-, -, ⟨w4, w5, w6, w7, w8⟩, ⟨nl, l1, l2, l3, l4⟩, ⟨ns, s1, s2, s3⟩, ⟨md, m1, m2⟩, ⟨sl, y1, y2⟩⟩ := w
  have L : ∀ j, j < 5 ∨ 2010 ≤ j → q j = p j := lo
  refine ⟨V, ivq, ?_, ⟨nl, l1, (L 1 (by omega)).trans l2, by rw [L 2 (by omega)]; exact l3, fun i hi => ?_⟩, ⟨ns, s1, (L 0 (by omega)).trans s2, fun i hi => ?_⟩, ⟨md, m1, (L 4 (by omega)).trans m2⟩, ⟨sl, y1, (L 3 (by omega)).trans y2⟩⟩
  · rw [f25, L 0 (by omega), L 1 (by omega), L 2 (by omega), L 3 (by omega), L 4 (by omega)]
    exact ⟨w4, w5, w6, w7, w8⟩
  · obtain ⟨a, L', z1, z2, z3, z4, z5⟩ := l4 i hi
    exact ⟨a, L', by show hra h5 36 i = _; rw [r36]; exact z1, z2, by omega, PXh_a (fun x h1 h2 => X x (by omega) (by omega)) z4, TX_c (fun x hx => L x (by omega)) z5⟩
  · have e37 : hia h5 (25 + 12) = hia h (25 + 12) := c37
    have e38 : hia h5 (25 + 13) = hia h (25 + 13) := c38
    rw [e37, e38, L _ (by omega), L _ (by omega)]
    exact s3 i hi
