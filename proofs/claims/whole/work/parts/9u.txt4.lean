/-! ===== the program reads a clause ===== -/
set_option maxRecDepth 20000 in
theorem UC_Re_readsClause_63 {G : GT} (hG : Gmono G) (R : RT) (lm : Nat × Nat) : WP cd_Re_readsClause G R lm 0 = stp G R lm (2, 1, 0, 0, 0, 0, []) (WP cd_Re_readsClause G R lm) ∧ WP cd_Re_readsClause G R lm 1 = stp G R lm (86, 4, 52, 0, 0, 0, [4]) (WP cd_Re_readsClause G R lm) ∧ WP cd_Re_readsClause G R lm 4 = stp G R lm (4, 5, 2, 0, 0, 0, []) (WP cd_Re_readsClause G R lm) ∧ WP cd_Re_readsClause G R lm 5 = stp G R lm (1, 6, 2, 0, 0, 0, []) (WP cd_Re_readsClause G R lm) ∧ WP cd_Re_readsClause G R lm 6 = stp G R lm (7, 7, 0, 0, (-1), 0, []) (WP cd_Re_readsClause G R lm) ∧ WP cd_Re_readsClause G R lm 7 = stp G R lm (42, 10, 15, 0, 0, 0, []) (WP cd_Re_readsClause G R lm) ∧ WP cd_Re_readsClause G R lm 10 = stp G R lm (2, 11, 0, 0, 0, 0, []) (WP cd_Re_readsClause G R lm) ∧ WP cd_Re_readsClause G R lm 11 = stp G R lm (86, 14, 47, 0, 0, 0, [4]) (WP cd_Re_readsClause G R lm) ∧ WP cd_Re_readsClause G R lm 14 = stp G R lm (81, 15, 1, 0, 0, 0, []) (WP cd_Re_readsClause G R lm) ∧ WP cd_Re_readsClause G R lm 15 = stp G R lm (2, 16, 0, 0, 0, 0, []) (WP cd_Re_readsClause G R lm) ∧ WP cd_Re_readsClause G R lm 16 = stp G R lm (58, 19, 4, 0, 0, 0, []) (WP cd_Re_readsClause G R lm) ∧ WP cd_Re_readsClause G R lm 19 = stp G R lm (86, 22, 67, 0, 0, 0, [5]) (WP cd_Re_readsClause G R lm) ∧ WP cd_Re_readsClause G R lm 22 = stp G R lm (7, 23, 0, 0, nI 0, 0, []) (WP cd_Re_readsClause G R lm) ∧ WP cd_Re_readsClause G R lm 23 = stp G R lm (4, 24, 3, 0, 0, 0, []) (WP cd_Re_readsClause G R lm) ∧ WP cd_Re_readsClause G R lm 25 = stp G R lm (7, 27, 0, 0, nI 6, 0, []) (WP cd_Re_readsClause G R lm) ∧ WP cd_Re_readsClause G R lm 27 = stp G R lm (44, 30, 45, 0, 0, 0, []) (WP cd_Re_readsClause G R lm) ∧ WP cd_Re_readsClause G R lm 30 = stp G R lm (2, 31, 0, 0, 0, 0, []) (WP cd_Re_readsClause G R lm) ∧ WP cd_Re_readsClause G R lm 31 = stp G R lm (58, 34, 4, 2, 0, 0, []) (WP cd_Re_readsClause G R lm) ∧ WP cd_Re_readsClause G R lm 34 = stp G R lm (1, 35, 1, 0, 0, 0, []) (WP cd_Re_readsClause G R lm) ∧ WP cd_Re_readsClause G R lm 35 = stp G R lm (1, 36, 3, 0, 0, 0, []) (WP cd_Re_readsClause G R lm) ∧ WP cd_Re_readsClause G R lm 36 = stp G R lm (12, 37, 0, 0, 0, 0, []) (WP cd_Re_readsClause G R lm) ∧ WP cd_Re_readsClause G R lm 37 = stp G R lm (7, 38, 0, 0, (-1), 0, []) (WP cd_Re_readsClause G R lm) ∧ WP cd_Re_readsClause G R lm 38 = stp G R lm (66, 39, 0, 0, 0, 0, []) (WP cd_Re_readsClause G R lm) ∧ WP cd_Re_readsClause G R lm 39 = stp G R lm (11, 42, 3, 0, nI 1, 0, []) (WP cd_Re_readsClause G R lm) ∧ WP cd_Re_readsClause G R lm 42 = stp G R lm (40, 24, 0, 0, 0, 0, []) (WP cd_Re_readsClause G R lm) ∧ WP cd_Re_readsClause G R lm 45 = stp G R lm (2, 46, 0, 0, 0, 0, []) (WP cd_Re_readsClause G R lm) ∧ WP cd_Re_readsClause G R lm 46 = stp G R lm (58, 49, 4, 2, 0, 0, []) (WP cd_Re_readsClause G R lm) ∧ WP cd_Re_readsClause G R lm 49 = stp G R lm (1, 50, 1, 0, 0, 0, []) (WP cd_Re_readsClause G R lm) ∧ WP cd_Re_readsClause G R lm 50 = stp G R lm (7, 51, 0, 0, nI 0, 0, []) (WP cd_Re_readsClause G R lm) ∧ WP cd_Re_readsClause G R lm 51 = stp G R lm (12, 52, 0, 0, 0, 0, []) (WP cd_Re_readsClause G R lm) ∧ WP cd_Re_readsClause G R lm 52 = stp G R lm (1, 53, 2, 0, 0, 0, []) (WP cd_Re_readsClause G R lm) ∧ WP cd_Re_readsClause G R lm 53 = stp G R lm (66, 54, 0, 0, 0, 0, []) (WP cd_Re_readsClause G R lm) ∧ WP cd_Re_readsClause G R lm 54 = stp G R lm (2, 55, 0, 0, 0, 0, []) (WP cd_Re_readsClause G R lm) ∧ WP cd_Re_readsClause G R lm 55 = stp G R lm (58, 58, 4, 2, 0, 0, []) (WP cd_Re_readsClause G R lm) ∧ WP cd_Re_readsClause G R lm 58 = stp G R lm (1, 59, 1, 0, 0, 0, []) (WP cd_Re_readsClause G R lm) ∧ WP cd_Re_readsClause G R lm 59 = stp G R lm (7, 60, 0, 0, nI 1, 0, []) (WP cd_Re_readsClause G R lm) ∧ WP cd_Re_readsClause G R lm 60 = stp G R lm (12, 61, 0, 0, 0, 0, []) (WP cd_Re_readsClause G R lm) ∧ WP cd_Re_readsClause G R lm 61 = stp G R lm (7, 62, 0, 0, nI 1, 0, []) (WP cd_Re_readsClause G R lm) ∧ WP cd_Re_readsClause G R lm 62 = stp G R lm (66, 63, 0, 0, 0, 0, []) (WP cd_Re_readsClause G R lm) ∧ WP cd_Re_readsClause G R lm 64 = stp G R lm (1, 65, 1, 0, 0, 0, []) (WP cd_Re_readsClause G R lm) ∧ WP cd_Re_readsClause G R lm 65 = stp G R lm (1, 66, 2, 0, 0, 0, []) (WP cd_Re_readsClause G R lm) ∧ WP cd_Re_readsClause G R lm 66 = stp G R lm (86, 69, 53, 2, 0, 0, [4]) (WP cd_Re_readsClause G R lm) ∧ WP cd_Re_readsClause G R lm 69 = stp G R lm (47, 72, 92, 0, 0, 0, []) (WP cd_Re_readsClause G R lm) ∧ WP cd_Re_readsClause G R lm 72 = stp G R lm (2, 73, 0, 0, 0, 0, []) (WP cd_Re_readsClause G R lm) ∧ WP cd_Re_readsClause G R lm 73 = stp G R lm (1, 74, 1, 0, 0, 0, []) (WP cd_Re_readsClause G R lm) ∧ WP cd_Re_readsClause G R lm 74 = stp G R lm (86, 77, 54, 1, 0, 0, [4]) (WP cd_Re_readsClause G R lm) ∧ WP cd_Re_readsClause G R lm 77 = stp G R lm (47, 80, 92, 0, 0, 0, []) (WP cd_Re_readsClause G R lm) ∧ WP cd_Re_readsClause G R lm 80 = stp G R lm (2, 81, 0, 0, 0, 0, []) (WP cd_Re_readsClause G R lm) ∧ WP cd_Re_readsClause G R lm 81 = stp G R lm (1, 82, 1, 0, 0, 0, []) (WP cd_Re_readsClause G R lm) ∧ WP cd_Re_readsClause G R lm 82 = stp G R lm (86, 85, 55, 1, 0, 0, [4]) (WP cd_Re_readsClause G R lm) ∧ WP cd_Re_readsClause G R lm 85 = stp G R lm (47, 88, 92, 0, 0, 0, []) (WP cd_Re_readsClause G R lm) ∧ WP cd_Re_readsClause G R lm 88 = stp G R lm (7, 89, 0, 0, nI 1, 0, []) (WP cd_Re_readsClause G R lm) ∧ WP cd_Re_readsClause G R lm 89 = stp G R lm (40, 93, 0, 0, 0, 0, []) (WP cd_Re_readsClause G R lm) ∧ WP cd_Re_readsClause G R lm 92 = stp G R lm (7, 93, 0, 0, nI 0, 0, []) (WP cd_Re_readsClause G R lm) ∧ WP cd_Re_readsClause G R lm 93 = stp G R lm (81, 94, 1, 0, 0, 0, []) (WP cd_Re_readsClause G R lm) := ⟨WP_eq hG rfl, WP_eq hG rfl, WP_eq hG rfl, WP_eq hG rfl, WP_eq hG rfl, WP_eq hG rfl, WP_eq hG rfl, WP_eq hG rfl, WP_eq hG rfl, WP_eq hG rfl, WP_eq hG rfl, WP_eq hG rfl, WP_eq hG rfl, WP_eq hG rfl, WP_eq hG rfl, WP_eq hG rfl, WP_eq hG rfl, WP_eq hG rfl, WP_eq hG rfl, WP_eq hG rfl, WP_eq hG rfl, WP_eq hG rfl, WP_eq hG rfl, WP_eq hG rfl, WP_eq hG rfl, WP_eq hG rfl, WP_eq hG rfl, WP_eq hG rfl, WP_eq hG rfl, WP_eq hG rfl, WP_eq hG rfl, WP_eq hG rfl, WP_eq hG rfl, WP_eq hG rfl, WP_eq hG rfl, WP_eq hG rfl, WP_eq hG rfl, WP_eq hG rfl, WP_eq hG rfl, WP_eq hG rfl, WP_eq hG rfl, WP_eq hG rfl, WP_eq hG rfl, WP_eq hG rfl, WP_eq hG rfl, WP_eq hG rfl, WP_eq hG rfl, WP_eq hG rfl, WP_eq hG rfl, WP_eq hG rfl, WP_eq hG rfl, WP_eq hG rfl, WP_eq hG rfl, WP_eq hG rfl, WP_eq hG rfl⟩
set_option maxRecDepth 20000 in
theorem UC_Re_readsClause_45 {G : GT} (hG : Gmono G) (R : RT) (lm : Nat × Nat) : WP cd_Re_readsClause G R lm 0 = stp G R lm (2, 1, 0, 0, 0, 0, []) (WP cd_Re_readsClause G R lm) ∧ WP cd_Re_readsClause G R lm 1 = stp G R lm (86, 4, 52, 0, 0, 0, [4]) (WP cd_Re_readsClause G R lm) ∧ WP cd_Re_readsClause G R lm 4 = stp G R lm (4, 5, 2, 0, 0, 0, []) (WP cd_Re_readsClause G R lm) ∧ WP cd_Re_readsClause G R lm 5 = stp G R lm (1, 6, 2, 0, 0, 0, []) (WP cd_Re_readsClause G R lm) ∧ WP cd_Re_readsClause G R lm 6 = stp G R lm (7, 7, 0, 0, (-1), 0, []) (WP cd_Re_readsClause G R lm) ∧ WP cd_Re_readsClause G R lm 7 = stp G R lm (42, 10, 15, 0, 0, 0, []) (WP cd_Re_readsClause G R lm) ∧ WP cd_Re_readsClause G R lm 10 = stp G R lm (2, 11, 0, 0, 0, 0, []) (WP cd_Re_readsClause G R lm) ∧ WP cd_Re_readsClause G R lm 11 = stp G R lm (86, 14, 47, 0, 0, 0, [4]) (WP cd_Re_readsClause G R lm) ∧ WP cd_Re_readsClause G R lm 14 = stp G R lm (81, 15, 1, 0, 0, 0, []) (WP cd_Re_readsClause G R lm) ∧ WP cd_Re_readsClause G R lm 15 = stp G R lm (2, 16, 0, 0, 0, 0, []) (WP cd_Re_readsClause G R lm) ∧ WP cd_Re_readsClause G R lm 16 = stp G R lm (58, 19, 4, 0, 0, 0, []) (WP cd_Re_readsClause G R lm) ∧ WP cd_Re_readsClause G R lm 19 = stp G R lm (86, 22, 67, 0, 0, 0, [5]) (WP cd_Re_readsClause G R lm) ∧ WP cd_Re_readsClause G R lm 22 = stp G R lm (7, 23, 0, 0, nI 0, 0, []) (WP cd_Re_readsClause G R lm) ∧ WP cd_Re_readsClause G R lm 23 = stp G R lm (4, 24, 3, 0, 0, 0, []) (WP cd_Re_readsClause G R lm) ∧ WP cd_Re_readsClause G R lm 25 = stp G R lm (7, 27, 0, 0, nI 6, 0, []) (WP cd_Re_readsClause G R lm) ∧ WP cd_Re_readsClause G R lm 27 = stp G R lm (44, 30, 45, 0, 0, 0, []) (WP cd_Re_readsClause G R lm) ∧ WP cd_Re_readsClause G R lm 30 = stp G R lm (2, 31, 0, 0, 0, 0, []) (WP cd_Re_readsClause G R lm) ∧ WP cd_Re_readsClause G R lm 31 = stp G R lm (58, 34, 4, 2, 0, 0, []) (WP cd_Re_readsClause G R lm) ∧ WP cd_Re_readsClause G R lm 34 = stp G R lm (1, 35, 1, 0, 0, 0, []) (WP cd_Re_readsClause G R lm) ∧ WP cd_Re_readsClause G R lm 35 = stp G R lm (1, 36, 3, 0, 0, 0, []) (WP cd_Re_readsClause G R lm) ∧ WP cd_Re_readsClause G R lm 36 = stp G R lm (12, 37, 0, 0, 0, 0, []) (WP cd_Re_readsClause G R lm) ∧ WP cd_Re_readsClause G R lm 37 = stp G R lm (7, 38, 0, 0, (-1), 0, []) (WP cd_Re_readsClause G R lm) ∧ WP cd_Re_readsClause G R lm 38 = stp G R lm (66, 39, 0, 0, 0, 0, []) (WP cd_Re_readsClause G R lm) ∧ WP cd_Re_readsClause G R lm 39 = stp G R lm (11, 42, 3, 0, nI 1, 0, []) (WP cd_Re_readsClause G R lm) ∧ WP cd_Re_readsClause G R lm 42 = stp G R lm (40, 24, 0, 0, 0, 0, []) (WP cd_Re_readsClause G R lm) ∧ WP cd_Re_readsClause G R lm 46 = stp G R lm (58, 49, 4, 2, 0, 0, []) (WP cd_Re_readsClause G R lm) ∧ WP cd_Re_readsClause G R lm 49 = stp G R lm (1, 50, 1, 0, 0, 0, []) (WP cd_Re_readsClause G R lm) ∧ WP cd_Re_readsClause G R lm 50 = stp G R lm (7, 51, 0, 0, nI 0, 0, []) (WP cd_Re_readsClause G R lm) ∧ WP cd_Re_readsClause G R lm 51 = stp G R lm (12, 52, 0, 0, 0, 0, []) (WP cd_Re_readsClause G R lm) ∧ WP cd_Re_readsClause G R lm 52 = stp G R lm (1, 53, 2, 0, 0, 0, []) (WP cd_Re_readsClause G R lm) ∧ WP cd_Re_readsClause G R lm 53 = stp G R lm (66, 54, 0, 0, 0, 0, []) (WP cd_Re_readsClause G R lm) ∧ WP cd_Re_readsClause G R lm 54 = stp G R lm (2, 55, 0, 0, 0, 0, []) (WP cd_Re_readsClause G R lm) ∧ WP cd_Re_readsClause G R lm 55 = stp G R lm (58, 58, 4, 2, 0, 0, []) (WP cd_Re_readsClause G R lm) ∧ WP cd_Re_readsClause G R lm 58 = stp G R lm (1, 59, 1, 0, 0, 0, []) (WP cd_Re_readsClause G R lm) ∧ WP cd_Re_readsClause G R lm 59 = stp G R lm (7, 60, 0, 0, nI 1, 0, []) (WP cd_Re_readsClause G R lm) ∧ WP cd_Re_readsClause G R lm 60 = stp G R lm (12, 61, 0, 0, 0, 0, []) (WP cd_Re_readsClause G R lm) ∧ WP cd_Re_readsClause G R lm 61 = stp G R lm (7, 62, 0, 0, nI 1, 0, []) (WP cd_Re_readsClause G R lm) ∧ WP cd_Re_readsClause G R lm 62 = stp G R lm (66, 63, 0, 0, 0, 0, []) (WP cd_Re_readsClause G R lm) ∧ WP cd_Re_readsClause G R lm 63 = stp G R lm (2, 64, 0, 0, 0, 0, []) (WP cd_Re_readsClause G R lm) ∧ WP cd_Re_readsClause G R lm 64 = stp G R lm (1, 65, 1, 0, 0, 0, []) (WP cd_Re_readsClause G R lm) ∧ WP cd_Re_readsClause G R lm 65 = stp G R lm (1, 66, 2, 0, 0, 0, []) (WP cd_Re_readsClause G R lm) ∧ WP cd_Re_readsClause G R lm 66 = stp G R lm (86, 69, 53, 2, 0, 0, [4]) (WP cd_Re_readsClause G R lm) ∧ WP cd_Re_readsClause G R lm 69 = stp G R lm (47, 72, 92, 0, 0, 0, []) (WP cd_Re_readsClause G R lm) ∧ WP cd_Re_readsClause G R lm 72 = stp G R lm (2, 73, 0, 0, 0, 0, []) (WP cd_Re_readsClause G R lm) ∧ WP cd_Re_readsClause G R lm 73 = stp G R lm (1, 74, 1, 0, 0, 0, []) (WP cd_Re_readsClause G R lm) ∧ WP cd_Re_readsClause G R lm 74 = stp G R lm (86, 77, 54, 1, 0, 0, [4]) (WP cd_Re_readsClause G R lm) ∧ WP cd_Re_readsClause G R lm 77 = stp G R lm (47, 80, 92, 0, 0, 0, []) (WP cd_Re_readsClause G R lm) ∧ WP cd_Re_readsClause G R lm 80 = stp G R lm (2, 81, 0, 0, 0, 0, []) (WP cd_Re_readsClause G R lm) ∧ WP cd_Re_readsClause G R lm 81 = stp G R lm (1, 82, 1, 0, 0, 0, []) (WP cd_Re_readsClause G R lm) ∧ WP cd_Re_readsClause G R lm 82 = stp G R lm (86, 85, 55, 1, 0, 0, [4]) (WP cd_Re_readsClause G R lm) ∧ WP cd_Re_readsClause G R lm 85 = stp G R lm (47, 88, 92, 0, 0, 0, []) (WP cd_Re_readsClause G R lm) ∧ WP cd_Re_readsClause G R lm 88 = stp G R lm (7, 89, 0, 0, nI 1, 0, []) (WP cd_Re_readsClause G R lm) ∧ WP cd_Re_readsClause G R lm 89 = stp G R lm (40, 93, 0, 0, 0, 0, []) (WP cd_Re_readsClause G R lm) ∧ WP cd_Re_readsClause G R lm 92 = stp G R lm (7, 93, 0, 0, nI 0, 0, []) (WP cd_Re_readsClause G R lm) ∧ WP cd_Re_readsClause G R lm 93 = stp G R lm (81, 94, 1, 0, 0, 0, []) (WP cd_Re_readsClause G R lm) := ⟨WP_eq hG rfl, WP_eq hG rfl, WP_eq hG rfl, WP_eq hG rfl, WP_eq hG rfl, WP_eq hG rfl, WP_eq hG rfl, WP_eq hG rfl, WP_eq hG rfl, WP_eq hG rfl, WP_eq hG rfl, WP_eq hG rfl, WP_eq hG rfl, WP_eq hG rfl, WP_eq hG rfl, WP_eq hG rfl, WP_eq hG rfl, WP_eq hG rfl, WP_eq hG rfl, WP_eq hG rfl, WP_eq hG rfl, WP_eq hG rfl, WP_eq hG rfl, WP_eq hG rfl, WP_eq hG rfl, WP_eq hG rfl, WP_eq hG rfl, WP_eq hG rfl, WP_eq hG rfl, WP_eq hG rfl, WP_eq hG rfl, WP_eq hG rfl, WP_eq hG rfl, WP_eq hG rfl, WP_eq hG rfl, WP_eq hG rfl, WP_eq hG rfl, WP_eq hG rfl, WP_eq hG rfl, WP_eq hG rfl, WP_eq hG rfl, WP_eq hG rfl, WP_eq hG rfl, WP_eq hG rfl, WP_eq hG rfl, WP_eq hG rfl, WP_eq hG rfl, WP_eq hG rfl, WP_eq hG rfl, WP_eq hG rfl, WP_eq hG rfl, WP_eq hG rfl, WP_eq hG rfl, WP_eq hG rfl, WP_eq hG rfl⟩
def XCc (g cf : Nat → Int32) (N om b : Nat) (c : CLA) : Prop := (om = 0 ∧ c.1 ≤ 1 ∨ om = 1 ∧ c.1 ≤ 2) ∧ g b = nI (kdX om c.1) ∧ g (b + 1) = nI c.2.1 ∧ (1 ≤ c.2.1 ∧ c.2.1 ≤ 20) ∧ (match c.2.2.1 with
  | none => g (b + 2) = -1
  | some v => TestV v ∧ ∃ t, t ≤ 448 ∧ g (b + 2) = nI t ∧ XEc cf N om t v) ∧ (∀ j, j < nSm om c.1 → ∃ t, t ≤ 448 ∧ g (b + 3 + j) = nI t ∧ XEc cf N om t (c.2.2.2 j)) ∧ (∀ j, nSm om c.1 ≤ j → j < 3 → g (b + 3 + j) = -1)
theorem XCc.of {g g' cf cf' : Nat → Int32} {N N' om b : Nat} {c : CLA} (x : XCc g cf N om b c) (hg : ∀ y, b ≤ y → y < b + 6 → g' y = g y) (hN : N ≤ N') (h : ∀ i, i < N → cf' i = cf i) : XCc g' cf' N' om b c := by
  obtain ⟨x1, x2, x3, x4, x5, x6, x7⟩ := x
  have n3 : nSm om c.1 ≤ 3 := by unfold nSm; split; split <;> omega; split; omega; split <;> omega
  refine ⟨x1, (hg b (by omega) (by omega)).trans x2, (hg _ (by omega) (by omega)).trans x3, x4, ?_, fun j hj => ?_, fun j h1 h2 => (hg _ (by omega) (by omega)).trans (x7 j h1 h2)⟩
  · revert x5
    cases c.2.2.1 with
    | none => exact fun x5 => (hg _ (by omega) (by omega)).trans x5
    | some v => exact fun ⟨tv, t, t1, t2, t3⟩ => ⟨tv, t, t1, (hg _ (by omega) (by omega)).trans t2, t3.of hN h⟩
  · obtain ⟨t, t1, t2, t3⟩ := x6 j hj
    exact ⟨t, t1, (hg _ (by omega) (by omega)).trans t2, t3.of hN h⟩
def ClK (h : MH) (T : TP) (om q cl b : Nat) (Q : RT) : Except Nat (CLA × Nat × Nat) → Prop
  | .error f => ∀ h', EG h h' f → Q (some (.int (nI 0))) h'
  | .ok (c, q', k') => ∀ h' cl', RG h h' → RS h' T om q' k' cl' → hfi h' 213 6 = hfi h 213 6 → cl ≤ cl' → cl' + q ≤ cl + q' → (∀ j, j < cl → hia h' 216 j = hia h 216 j) → (∀ x, (x < b ∨ b + 6 ≤ x) → hia h' 217 x = hia h 217 x) → XCc (hia h' 217) (hia h' 216) cl' om b c → k' ≤ 50 → Q (some (.int (nI 1))) h'
theorem hdA_ok {T : TP} {om q : Nat} (hom : om ≤ 1) (h : hdA T om q ≠ 99) : (om = 0 ∧ hdA T om q ≤ 1 ∨ om = 1 ∧ hdA T om q ≤ 2) ∧ ∃ x, x < 5 ∧ bW T q x = true := by
  unfold hdA at h ⊢
  rcases (show om = 0 ∨ om = 1 by omega) with rfl | rfl
  · rw [if_pos rfl] at h ⊢
    by_cases c3 : bW T q 3 = true
    · rw [if_pos c3]; exact ⟨by omega, 3, by omega, c3⟩
    rw [if_neg c3] at h ⊢
    by_cases c4 : bW T q 4 = true
    · rw [if_pos c4]; exact ⟨by omega, 4, by omega, c4⟩
    rw [if_neg c4] at h
    exact absurd rfl h
  · rw [if_neg (by omega)] at h ⊢
    by_cases c0 : bW T q 0 = true
    · rw [if_pos c0]; exact ⟨by omega, 0, by omega, c0⟩
    rw [if_neg c0] at h ⊢
    by_cases c1 : bW T q 1 = true
    · rw [if_pos c1]; exact ⟨by omega, 1, by omega, c1⟩
    rw [if_neg c1] at h ⊢
    by_cases c2 : bW T q 2 = true
    · rw [if_pos c2]; exact ⟨by omega, 2, by omega, c2⟩
    rw [if_neg c2] at h
    exact absurd rfl h
theorem pSm_ok {T : TP} {om : Nat} (hom : om ≤ 1) : ∀ (m i q k : Nat) (vs : Nat → VAL) {vs' : Nat → VAL} {q' k' : Nat}, pSm T om m i q k vs = .ok (vs', q', k') → i + m ≤ 3 → q ≤ T.2 → k ≤ 50 → q ≤ q' ∧ q' ≤ T.2 ∧ k' ≤ 50
  | 0, i, q, k, vs, vs', q', k', h, _, hq, hk => by cases h; exact ⟨Nat.le_refl _, hq, hk⟩
  | m + 1, i, q, k, vs, vs', q', k', h, hi, hq, hk => by
    unfold pSm at h
    split at h
    · next c =>
      have qs : q ≤ (if i = 0 then q else tBe T q) ∧ (if i = 0 then q else tBe T q) ≤ T.2 := by
        split
        · exact ⟨Nat.le_refl _, hq⟩
        · next i0 =>
          rcases c with c | c
          · exact absurd c i0
          · have := bW_adv hq (by omega) c
            exact ⟨by omega, this.2⟩
      generalize (if i = 0 then q else tBe T q) = qq at *
      split at h
      · cases h
      · next v q2 k2 e =>
        have a := qCh T hom 40 2 0 qq k v q2 k2 e qs.2
        have b := (kCh T om 40 2 0 qq k v q2 k2 e).1 hk
        have r := pSm_ok hom m (i + 1) _ _ _ h (by omega) a.2 b
        exact ⟨by omega, r.2.1, r.2.2⟩
    · cases h
theorem pTm_ok {T : TP} {om q n q' : Nat} (h : pTm T om q = .ok (n, q')) (hq : q ≤ T.2) : q ≤ q' ∧ q' ≤ T.2 ∧ 1 ≤ n ∧ n ≤ 20 := by
  unfold pTm at h
  split at h
  · next c =>
    have a := bW_adv hq (by omega) c.2
    split at h
    · next c2 =>
      have b := q_adv a.2 (bN_ty c2)
      have z := bN_t.mp c2
      cases h
      exact ⟨by omega, b.2, z.2.1, z.2.2⟩
    · cases h
  · cases h; exact ⟨Nat.le_refl _, hq, by omega, by omega⟩
theorem pTs_ok {T : TP} {om q k q' k' : Nat} {t : Option VAL} (hom : om ≤ 1) (h : pTs T om q k = .ok (t, q', k')) (hq : q ≤ T.2) (hk : k ≤ 50) : q ≤ q' ∧ q' ≤ T.2 ∧ k' ≤ 50 := by
  unfold pTs at h
  split at h
  · next c =>
    have a := bW_adv hq (by omega) c
    split at h
    · cases h
    · next v q2 k2 e =>
      have b := qCh T hom 40 0 0 _ k v q2 k2 e a.2
      have c := (kCh T om 40 0 0 _ k v q2 k2 e).1 hk
      cases h
      exact ⟨by omega, b.2, c⟩
  · cases h; exact ⟨Nat.le_refl _, hq, hk⟩
theorem x_clause63 (d b kd q k cl : Nat) {T : TP} {om : Nat} (hKd : om = 0 ∧ kd ≤ 1 ∨ om = 1 ∧ kd ≤ 2) (hb : b ≤ 66) (hk : k ≤ 50) {h0 h : MH} (F0 : RG h0 h) (g6 : hfi h 213 6 = hfi h0 213 6) (g216 : hia h 216 = hia h0 216) (r : RS h T om q k cl) (hc : cl + T.2 < 448 + q) (q0 : Nat) (hq0 : q0 + 1 ≤ q) (G1 : hia h 217 b = nI (kdX om kd)) (G2 : hia h 217 (b + 1) = nI 1) (G3 : ∀ x, b + 2 ≤ x → x < b + 6 → hia h 217 x = -1) (G4 : ∀ x, (x < b ∨ b + 6 ≤ x) → hia h 217 x = hia h0 217 x) (w3 : Option Value) (Q : RT) (lm : Nat × Nat) (K : ClK h0 T om q0 cl b Q (match pSm T om (nSm om kd) 0 q k (fun _ => vZ) with
  | .error f => .error f
  | .ok (vs, q1, k1) => match pTm T om q1 with
    | .error f => .error f
    | .ok (n, q2) => match pTs T om q2 k1 with
      | .error f => .error f
      | .ok (t, q3, k3) => .ok ((kd, n, t, vs), q3, k3))) : WP cd_Re_readsClause (callD (d + 165)) Q lm 63 [] [some (.ref 213), some (.int (nI b)), some (.int (nI (kdX om kd))), w3] h := by
  have hom : om ≤ 1 := by omega
  have hq := r.2.1.2.2.1
  have n3 : nSm om kd ≤ 3 := by unfold nSm; split; split <;> omega; split; omega; split <;> omega
  have s := r.1
  unfold XSr at s
  simp (disch := omega) only [U_Re_readsClause (cm _), SA, SB, SC1, SC2, SG, SV, s, true_and]
  refine x_sums d b kd q k cl hKd hb hk r hc _ ?_
  cases h1 : pSm T om (nSm om kd) 0 q k (fun _ => vZ) with
  | error f =>
    rw [h1] at K
    intro h' e
    simp (disch := omega) only [U_Re_readsClause (cm _), SA, SB, SC1, SC2, SG, SV, eqI, Nat.one_ne_zero, true_or, or_true, true_implies, not_true_eq_false, not_false_eq_true, false_implies, true_and, and_true]
    exact K h' (EG.pre F0 e)
  | ok w =>
    obtain ⟨vs, q1, k1⟩ := w
    rw [h1] at K
    simp only at K
    obtain ⟨u1, u2, u3⟩ := pSm_ok hom _ _ _ _ _ h1 (by omega) hq hk
    intro h' cl' f1 r1 e6 c1 c2 kc kw xs
    have s1 := r1.1
    unfold XSr at s1
    have c2' : cl' + q ≤ cl + q1 + 1 := by
      split at c2 <;> omega
    simp (disch := omega) only [U_Re_readsClause (cm _), SA, SB, SC1, SC2, SG, SV, s1, eqI, Nat.one_ne_zero, true_or, or_true, true_implies, not_true_eq_false, not_false_eq_true, false_implies, true_and, and_true]
    refine x_times (d + 162) b q1 k1 cl' hom hb r1 _ ?_
    cases h2 : pTm T om q1 with
    | error f =>
      rw [h2] at K
      intro h'' e
      simp (disch := omega) only [U_Re_readsClause (cm _), SA, SB, SC1, SC2, SG, SV, eqI, Nat.one_ne_zero, true_or, or_true, true_implies, not_true_eq_false, not_false_eq_true, false_implies, true_and, and_true]
      exact K h'' (EG.pre (F0.trans f1) e)
    | ok w =>
      obtain ⟨n, q2⟩ := w
      rw [h2] at K
      simp only at K
      obtain ⟨v1, v2, v3, v4⟩ := pTm_ok h2 u2
      intro h'' f2 r2 y6 y216 y217
      have s2 := r2.1
      unfold XSr at s2
      simp (disch := omega) only [U_Re_readsClause (cm _), SA, SB, SC1, SC2, SG, SV, s2, eqI, Nat.one_ne_zero, true_or, or_true, true_implies, not_true_eq_false, not_false_eq_true, false_implies, true_and, and_true]
      refine x_rtest d b q2 k1 cl' hom hb u3 r2 (by omega) _ ?_
      cases h3 : pTs T om q2 k1 with
      | error f =>
        rw [h3] at K
        intro h3' e
        simp (disch := omega) only [U_Re_readsClause (cm _), SA, SB, SC1, SC2, SG, SV, eqI, Nat.one_ne_zero, true_or, or_true, true_implies, not_true_eq_false, not_false_eq_true, false_implies, true_and, and_true]
        exact K h3' (EG.pre ((F0.trans f1).trans f2) e)
      | ok w =>
        obtain ⟨t, q3, k3⟩ := w
        rw [h3] at K
        simp only at K
        obtain ⟨w1, w2, w3⟩ := pTs_ok hom h3 v2 u3
        intro h4 cl4 f3 r3 z6 d1 d2 kc3 kw3 tt
        simp (disch := omega) only [U_Re_readsClause (cm _), SA, SB, SC1, SC2, SG, SV, eqI, Nat.one_ne_zero, true_or, or_true, true_implies, not_true_eq_false, not_false_eq_true, false_implies, true_and, and_true]
        have kk : ∀ x, x ≠ b + 1 → hia h'' 217 x = hia h' 217 x := fun x hx => by
          rcases y217 with ⟨-, e⟩ | e
          · rw [e]
          · rw [e, up1_n _ _ hx]
        have b1 : hia h4 217 (b + 1) = nI n := by
          rw [kw3 _ (by omega)]
          rcases y217 with ⟨e1, e⟩ | e
          · rw [e, kw _ (by omega), G2, e1]
          · rw [e, up1_s]
        refine K h4 cl4 (((F0.trans f1).trans f2).trans f3) r3 (((z6.trans y6).trans e6).trans g6) (by omega) (by omega) (fun j hj => by rw [kc3 j (by omega), y216, kc j hj, g216]) (fun x hx => by rw [kw3 x (by omega), kk x (by omega), kw x (by omega), G4 x hx]) ⟨hKd, ?_, b1, ⟨v3, v4⟩, ?_, fun j hj => ?_, fun j j1 j2 => ?_⟩ w3
        · rw [kw3 _ (by omega), kk _ (by omega), kw _ (by omega), G1]
        · cases t with
          | none => exact tt.trans (by rw [kk _ (by omega), kw _ (by omega), G3 _ (by omega) (by omega)])
          | some v => exact tt
        · have hj' : j < nSm om kd := hj
          obtain ⟨t', t1, t2, t3⟩ := xs j (by omega) (by omega)
          refine ⟨t', t1, ?_, t3.of d1 (fun i hi => by rw [kc3 i hi, y216])⟩
          rw [kw3 _ (by omega), kk _ (by omega)]; exact t2
        · have j1' : nSm om kd ≤ j := j1
          rw [kw3 _ (by omega), kk _ (by omega), kw _ (by omega), G3 _ (by omega) (by omega)]
def fillF (f : Nat → Int32) (lo hi : Nat) (v : Int32) : Nat → Int32 := fun x => if lo ≤ x ∧ x < hi then v else f x
theorem fill_0 (f : Nat → Int32) (lo : Nat) (v : Int32) : fillF f lo lo v = f := funext fun x => if_neg (by omega)
theorem fill_s (f : Nat → Int32) (lo hi : Nat) (v : Int32) (h : lo < hi) : fillF (up1 f lo v) (lo + 1) hi v = fillF f lo hi v := funext fun x => by
  unfold fillF
  by_cases c : lo + 1 ≤ x ∧ x < hi
  · rw [if_pos c, if_pos (by omega)]
  · rw [if_neg c]
    by_cases e : x = lo
    · subst e; rw [up1_s, if_pos (by omega)]
    · rw [up1_n _ _ e, if_neg (by omega)]
theorem fill_i {f : Nat → Int32} {lo hi : Nat} {v : Int32} {x : Nat} (h : lo ≤ x ∧ x < hi) : fillF f lo hi v x = v := if_pos h
theorem fill_o {f : Nat → Int32} {lo hi : Nat} {v : Int32} {x : Nat} (h : ¬ (lo ≤ x ∧ x < hi)) : fillF f lo hi v x = f x := if_neg h
theorem sIA_self (h : MH) (a : Nat) : sIA h a (hia h a) = h := by
  have e : up1 (hia h) a (hia h a) = hia h := funext fun x => by
    by_cases c : x = a
    · subst c; rw [up1_s]
    · rw [up1_n _ _ c]
  show (_, _, _, _, _, _, _, _, up1 (hia h) a (hia h a), _, _) = h
  rw [e]
  rfl
theorem x_l_cl24 (d b : Nat) (hb : b ≤ 66) (w2 : Int32) (Q : RT) (lm : Nat × Nat) : ∀ (m i : Nat) (h : MH), XSr h → i + m = 6 → WP cd_Re_readsClause (callD d) Q lm 24 [] [some (.ref 213), some (.int (nI b)), some (.int w2), some (.int (nI i))] h = WP cd_Re_readsClause (callD d) Q lm 45 [] [some (.ref 213), some (.int (nI b)), some (.int w2), some (.int (nI 6))] (sIA h 217 (fillF (hia h 217) (b + i) (b + 6) (-1)))
  | 0, i, h, s, e => by
    have ei : i = 6 := by omega
    subst ei
    rw [fill_0, U_Re_readsClause_24 (cm _)]
    have e2 : sIA h 217 (hia h 217) = h := sIA_self h 217
    rw [e2]
    simp (disch := omega) only [UC_Re_readsClause_45 (cm _), SA, SB, SG, SV, leI, Nat.le_refl, true_implies, not_true_eq_false, not_false_eq_true, false_implies, true_and, and_true]
  | m + 1, i, h, s, e => by
    have ih := x_l_cl24 d b hb w2 Q lm m (i + 1) (sIA h 217 (up1 (hia h 217) (b + i) (-1))) (XSr_e (SHE.refl h) s) (by omega)
    rw [hia_s, show b + (i + 1) = b + i + 1 by omega, fill_s _ _ _ _ (by omega)] at ih
    have s2 := s
    unfold XSr at s2
    rw [U_Re_readsClause_24 (cm _)]
    simp only [SK] at ih
    rw [← ih]
    simp (disch := omega) only [UC_Re_readsClause_45 (cm _), SA, SB, SC1, SC2, SG, SK, SV, SM, s2, leI, show ¬ 6 ≤ i by omega, nI_add, nI_clamp, in_eq, Nat.reduceLeDiff, true_implies, not_true_eq_false, not_false_eq_true, false_implies, true_and, and_true]
theorem x_clause (d b q k cl : Nat) {T : TP} {om : Nat} (hom : om ≤ 1) (hb : b ≤ 66) (hk : k ≤ 50) {h : MH} (r : RS h T om q k cl) (hc : cl + T.2 < 448 + q) (Q : RT) (K : ClK h T om q cl b Q (pCl T om q k)) : callD (d + 166) 51 [.ref 213, .int (nI b)] h Q := by
  have s := r.1
  unfold XSr at s
  have hq := r.2.1.2.2.1
  have KD := fun Q => x_kindAt (d + 163) q k cl hom r Q
  unfold pCl at K
  rw [E_Re_readsClause]
  by_cases c : hdA T om q = 99
  · rw [if_pos c] at K KD
    have FL := fun Q => r_fails (d + 164) r Q
    have Y := K (flH h) ⟨(RF_fl h).G, fl_6 r⟩
    generalize flH h = h1 at *
    simp (disch := omega) only [U_Re_readsClause (cm _), SA, SB, SC1, SC2, SG, SV, s, KD, FL, true_or, or_true, true_implies, not_true_eq_false, not_false_eq_true, false_implies, true_and, and_true]
    exact Y
  · rw [if_neg c] at K KD
    obtain ⟨kd1, x, hx, cw⟩ := hdA_ok hom c
    obtain ⟨a1, a2⟩ := bW_adv hq (by omega) cw
    have kx : kdX om (hdA T om q) ≤ 4 := by unfold kdX; split <;> omega
    have ni := nI_ne1 (n := kdX om (hdA T om q)) (by omega)
    have AV := fun Q => r_adv (d + 163) r Q
    have R1 := RS_av r
    have s1 := R1.1
    unfold XSr at s1
    have key : ∀ (G : Nat → Int32) w3 lm, G b = nI (kdX om (hdA T om q)) → G (b + 1) = nI 1 → (∀ x, b + 2 ≤ x → x < b + 6 → G x = -1) → (∀ x, (x < b ∨ b + 6 ≤ x) → G x = hia h 217 x) → WP cd_Re_readsClause (callD (d + 165)) Q lm 63 [] [some (.ref 213), some (.int (nI b)), some (.int (nI (kdX om (hdA T om q)))), w3] (sIA (avH h T q) 217 G) := fun G w3 lm h1 h2 h3 h4 =>
      x_clause63 d b (hdA T om q) (tBe T q) k cl kd1 hb hk ((RF_av h T q).G.trans (RG_c _ G)) (by show hfi (avH h T q) 213 6 = _; rw [av_6]) (by rw [hia_n _ _ (by omega)]; rfl) (RS_c R1 G) (by omega) q (by omega) (by rw [hia_s]; exact h1) (by rw [hia_s]; exact h2) (fun x z1 z2 => by rw [hia_s]; exact h3 x z1 z2) (fun x z => by rw [hia_s]; exact h4 x z) w3 Q lm K
    clear K
    have g7 : hia (avH h T q) 217 = hia h 217 := rfl
    generalize avH h T q = h1 at *
    generalize hdA T om q = kd at *
    generalize kdX om kd = kn at *
    have L := fun lm => x_l_cl24 (d + 165) b hb (nI kn) Q lm 6 0 h1 R1.1 (by omega)
    simp only [Nat.add_zero] at L
    simp (disch := omega) only [UC_Re_readsClause_63 (cm _), L, SA, SB, SC1, SC2, SG, SK, SV, SM, s, s1, KD, ni, AV, leI, nI_add, nI_clamp, in_eq, Nat.reduceAdd, Nat.reduceLeDiff, Nat.add_zero, true_or, or_true, true_implies, not_true_eq_false, not_false_eq_true, false_implies, true_and, and_true]
    refine key _ _ _ ?_ ?_ ?_ ?_
    · simp (disch := omega) only [up1_s, up1_n]
    · simp (disch := omega) only [up1_s, up1_n]
    · intro x x1 x2
      simp only [up1_s]
      rw [up1_n _ _ (show ¬ x = b + 1 by omega), up1_n _ _ (show ¬ x = b by omega)]; exact fill_i ⟨by omega, by omega⟩
    · intro x hx
      simp only [up1_s]
      rw [up1_n _ _ (show ¬ x = b + 1 by omega), up1_n _ _ (show ¬ x = b by omega), ← g7]; exact fill_o (by omega)
