def MSt (h : MH) (p : RW) (u s : Nat → Int32) (n : Nat) : Prop := MoS h ∧ hia h 275 = p ∧ hia h 278 = u ∧ hia h 279 = s ∧ hfi h 273 8 = nI n ∧ n ≤ 16 ∧ hfi h 273 20 = nI 0
theorem MSt.K {h h' : MH} {p : RW} {u s : Nat → Int32} {n : Nat} (S : MSt h p u s n) (m : MK h h') : MSt h' p u s n := by
  obtain ⟨a, b, c, d, e, f, g⟩ := S
  have eh := m.1.2.2.2.2.2.2.1
  exact ⟨m.S a, by rw [eh]; exact b, by rw [eh]; exact c, by rw [eh]; exact d, (m.2.1 273 8 (by omega)).trans e, f, (m.2.1 273 20 (by omega)).trans g⟩
/-- the row's small numbers -/
def RN (p : RW) : Prop := ∃ md, md ≤ 9 ∧ p 4 = nI md
theorem nn_n {a : Nat} (h : a < 2 ^ 31) : nn (nI a) = a := nI_clamp h
theorem iv_nums {p : RW} (v : IV p) : ∃ w tm, w ≤ 400 ∧ tm ≤ 999 ∧ p 6 = nI w ∧ p 5 = nI tm ∧ ql p = w := by
  obtain ⟨tm, t1, t2⟩ := v.1.2.2.1
  obtain ⟨q1, q2⟩ := v.1.2.2.2
  exact ⟨ql p, tm, q2, t1, q1, t2, rfl⟩
set_option maxRecDepth 20000 in
theorem UC_Mo_linkNow_128_157 {G : GT} (hG : Gmono G) (R : RT) (lm : Nat × Nat) : WP cd_Mo_linkNow G R lm 0 = stp G R lm (1, 1, 1, 0, 0, 0, []) (WP cd_Mo_linkNow G R lm) ∧ WP cd_Mo_linkNow G R lm 1 = stp G R lm (1, 2, 2, 0, 0, 0, []) (WP cd_Mo_linkNow G R lm) ∧ WP cd_Mo_linkNow G R lm 2 = stp G R lm (76, 5, 144, 2, 0, 0, []) (WP cd_Mo_linkNow G R lm) ∧ WP cd_Mo_linkNow G R lm 5 = stp G R lm (47, 8, 20, 0, 0, 0, []) (WP cd_Mo_linkNow G R lm) ∧ WP cd_Mo_linkNow G R lm 8 = stp G R lm (1, 9, 3, 0, 0, 0, []) (WP cd_Mo_linkNow G R lm) ∧ WP cd_Mo_linkNow G R lm 9 = stp G R lm (33, 10, 0, 0, 0, 0, []) (WP cd_Mo_linkNow G R lm) ∧ WP cd_Mo_linkNow G R lm 10 = stp G R lm (8, 11, 0, 0, 0, lN 0, []) (WP cd_Mo_linkNow G R lm) ∧ WP cd_Mo_linkNow G R lm 11 = stp G R lm (8, 14, 0, 0, 0, lN 50, []) (WP cd_Mo_linkNow G R lm) ∧ WP cd_Mo_linkNow G R lm 14 = stp G R lm (76, 17, 130, 3, 0, 0, []) (WP cd_Mo_linkNow G R lm) ∧ WP cd_Mo_linkNow G R lm 17 = stp G R lm (48, 20, 22, 0, 0, 0, []) (WP cd_Mo_linkNow G R lm) ∧ WP cd_Mo_linkNow G R lm 20 = stp G R lm (7, 21, 0, 0, (-1), 0, []) (WP cd_Mo_linkNow G R lm) ∧ WP cd_Mo_linkNow G R lm 21 = stp G R lm (81, 22, 0, 0, 0, 0, []) (WP cd_Mo_linkNow G R lm) ∧ WP cd_Mo_linkNow G R lm 22 = stp G R lm (2, 23, 0, 0, 0, 0, []) (WP cd_Mo_linkNow G R lm) ∧ WP cd_Mo_linkNow G R lm 23 = stp G R lm (1, 24, 1, 0, 0, 0, []) (WP cd_Mo_linkNow G R lm) ∧ WP cd_Mo_linkNow G R lm 24 = stp G R lm (1, 25, 2, 0, 0, 0, []) (WP cd_Mo_linkNow G R lm) ∧ WP cd_Mo_linkNow G R lm 25 = stp G R lm (86, 28, 145, 2, 0, 0, [8]) (WP cd_Mo_linkNow G R lm) ∧ WP cd_Mo_linkNow G R lm 28 = stp G R lm (4, 30, 4, 0, 0, 0, []) (WP cd_Mo_linkNow G R lm) ∧ WP cd_Mo_linkNow G R lm 30 = stp G R lm (1, 32, 4, 0, 0, 0, []) (WP cd_Mo_linkNow G R lm) ∧ WP cd_Mo_linkNow G R lm 32 = stp G R lm (1, 33, 3, 0, 0, 0, []) (WP cd_Mo_linkNow G R lm) ∧ WP cd_Mo_linkNow G R lm 33 = stp G R lm (41, 36, 46, 0, 0, 0, []) (WP cd_Mo_linkNow G R lm) ∧ WP cd_Mo_linkNow G R lm 36 = stp G R lm (2, 37, 0, 0, 0, 0, []) (WP cd_Mo_linkNow G R lm) ∧ WP cd_Mo_linkNow G R lm 37 = stp G R lm (1, 38, 1, 0, 0, 0, []) (WP cd_Mo_linkNow G R lm) ∧ WP cd_Mo_linkNow G R lm 38 = stp G R lm (1, 39, 2, 0, 0, 0, []) (WP cd_Mo_linkNow G R lm) ∧ WP cd_Mo_linkNow G R lm 39 = stp G R lm (1, 40, 3, 0, 0, 0, []) (WP cd_Mo_linkNow G R lm) ∧ WP cd_Mo_linkNow G R lm 40 = stp G R lm (86, 43, 199, 3, 0, 0, [8]) (WP cd_Mo_linkNow G R lm) ∧ WP cd_Mo_linkNow G R lm 43 = stp G R lm (47, 46, 49, 0, 0, 0, []) (WP cd_Mo_linkNow G R lm) ∧ WP cd_Mo_linkNow G R lm 46 = stp G R lm (7, 48, 0, 0, (-3), 0, []) (WP cd_Mo_linkNow G R lm) ∧ WP cd_Mo_linkNow G R lm 48 = stp G R lm (81, 49, 0, 0, 0, 0, []) (WP cd_Mo_linkNow G R lm) ∧ WP cd_Mo_linkNow G R lm 49 = stp G R lm (2, 50, 0, 0, 0, 0, []) (WP cd_Mo_linkNow G R lm) ∧ WP cd_Mo_linkNow G R lm 50 = stp G R lm (7, 52, 0, 0, nI 18, 0, []) (WP cd_Mo_linkNow G R lm) ∧ WP cd_Mo_linkNow G R lm 52 = stp G R lm (86, 55, 135, 1, 0, 0, [8]) (WP cd_Mo_linkNow G R lm) ∧ WP cd_Mo_linkNow G R lm 55 = stp G R lm (2, 56, 0, 0, 0, 0, []) (WP cd_Mo_linkNow G R lm) ∧ WP cd_Mo_linkNow G R lm 56 = stp G R lm (58, 59, 8, 3, 0, 0, []) (WP cd_Mo_linkNow G R lm) ∧ WP cd_Mo_linkNow G R lm 59 = stp G R lm (7, 61, 0, 0, nI 7, 0, []) (WP cd_Mo_linkNow G R lm) ∧ WP cd_Mo_linkNow G R lm 61 = stp G R lm (7, 63, 0, 0, nI 7, 0, []) (WP cd_Mo_linkNow G R lm) ∧ WP cd_Mo_linkNow G R lm 63 = stp G R lm (1, 64, 1, 0, 0, 0, []) (WP cd_Mo_linkNow G R lm) ∧ WP cd_Mo_linkNow G R lm 64 = stp G R lm (14, 65, 0, 0, 0, 0, []) (WP cd_Mo_linkNow G R lm) ∧ WP cd_Mo_linkNow G R lm 65 = stp G R lm (12, 66, 0, 0, 0, 0, []) (WP cd_Mo_linkNow G R lm) ∧ WP cd_Mo_linkNow G R lm 66 = stp G R lm (1, 67, 2, 0, 0, 0, []) (WP cd_Mo_linkNow G R lm) ∧ WP cd_Mo_linkNow G R lm 67 = stp G R lm (12, 68, 0, 0, 0, 0, []) (WP cd_Mo_linkNow G R lm) ∧ WP cd_Mo_linkNow G R lm 68 = stp G R lm (1, 69, 3, 0, 0, 0, []) (WP cd_Mo_linkNow G R lm) ∧ WP cd_Mo_linkNow G R lm 69 = stp G R lm (66, 70, 0, 0, 0, 0, []) (WP cd_Mo_linkNow G R lm) ∧ WP cd_Mo_linkNow G R lm 70 = stp G R lm (2, 71, 0, 0, 0, 0, []) (WP cd_Mo_linkNow G R lm) ∧ WP cd_Mo_linkNow G R lm 71 = stp G R lm (58, 74, 8, 3, 0, 0, []) (WP cd_Mo_linkNow G R lm) ∧ WP cd_Mo_linkNow G R lm 74 = stp G R lm (7, 76, 0, 0, nI 7, 0, []) (WP cd_Mo_linkNow G R lm) ∧ WP cd_Mo_linkNow G R lm 76 = stp G R lm (7, 78, 0, 0, nI 7, 0, []) (WP cd_Mo_linkNow G R lm) ∧ WP cd_Mo_linkNow G R lm 78 = stp G R lm (1, 79, 2, 0, 0, 0, []) (WP cd_Mo_linkNow G R lm) ∧ WP cd_Mo_linkNow G R lm 79 = stp G R lm (14, 80, 0, 0, 0, 0, []) (WP cd_Mo_linkNow G R lm) ∧ WP cd_Mo_linkNow G R lm 80 = stp G R lm (12, 81, 0, 0, 0, 0, []) (WP cd_Mo_linkNow G R lm) ∧ WP cd_Mo_linkNow G R lm 81 = stp G R lm (1, 82, 1, 0, 0, 0, []) (WP cd_Mo_linkNow G R lm) ∧ WP cd_Mo_linkNow G R lm 82 = stp G R lm (12, 83, 0, 0, 0, 0, []) (WP cd_Mo_linkNow G R lm) ∧ WP cd_Mo_linkNow G R lm 83 = stp G R lm (1, 84, 3, 0, 0, 0, []) (WP cd_Mo_linkNow G R lm) ∧ WP cd_Mo_linkNow G R lm 84 = stp G R lm (66, 85, 0, 0, 0, 0, []) (WP cd_Mo_linkNow G R lm) ∧ WP cd_Mo_linkNow G R lm 85 = stp G R lm (1, 87, 4, 0, 0, 0, []) (WP cd_Mo_linkNow G R lm) ∧ WP cd_Mo_linkNow G R lm 87 = stp G R lm (47, 90, 94, 0, 0, 0, []) (WP cd_Mo_linkNow G R lm) ∧ WP cd_Mo_linkNow G R lm 90 = stp G R lm (1, 91, 3, 0, 0, 0, []) (WP cd_Mo_linkNow G R lm) ∧ WP cd_Mo_linkNow G R lm 91 = stp G R lm (48, 94, 128, 0, 0, 0, []) (WP cd_Mo_linkNow G R lm) ∧ WP cd_Mo_linkNow G R lm 94 = stp G R lm (2, 95, 0, 0, 0, 0, []) (WP cd_Mo_linkNow G R lm) ∧ WP cd_Mo_linkNow G R lm 95 = stp G R lm (58, 98, 8, 3, 0, 0, []) (WP cd_Mo_linkNow G R lm) ∧ WP cd_Mo_linkNow G R lm 98 = stp G R lm (7, 100, 0, 0, nI 56, 0, []) (WP cd_Mo_linkNow G R lm) ∧ WP cd_Mo_linkNow G R lm 100 = stp G R lm (7, 102, 0, 0, nI 7, 0, []) (WP cd_Mo_linkNow G R lm) ∧ WP cd_Mo_linkNow G R lm 102 = stp G R lm (1, 103, 1, 0, 0, 0, []) (WP cd_Mo_linkNow G R lm) ∧ WP cd_Mo_linkNow G R lm 103 = stp G R lm (14, 104, 0, 0, 0, 0, []) (WP cd_Mo_linkNow G R lm) ∧ WP cd_Mo_linkNow G R lm 104 = stp G R lm (12, 105, 0, 0, 0, 0, []) (WP cd_Mo_linkNow G R lm) ∧ WP cd_Mo_linkNow G R lm 105 = stp G R lm (1, 106, 2, 0, 0, 0, []) (WP cd_Mo_linkNow G R lm) ∧ WP cd_Mo_linkNow G R lm 106 = stp G R lm (12, 107, 0, 0, 0, 0, []) (WP cd_Mo_linkNow G R lm) ∧ WP cd_Mo_linkNow G R lm 107 = stp G R lm (7, 110, 0, 0, nI 9999, 0, []) (WP cd_Mo_linkNow G R lm) ∧ WP cd_Mo_linkNow G R lm 110 = stp G R lm (66, 111, 0, 0, 0, 0, []) (WP cd_Mo_linkNow G R lm) ∧ WP cd_Mo_linkNow G R lm 111 = stp G R lm (2, 112, 0, 0, 0, 0, []) (WP cd_Mo_linkNow G R lm) ∧ WP cd_Mo_linkNow G R lm 112 = stp G R lm (58, 115, 8, 3, 0, 0, []) (WP cd_Mo_linkNow G R lm) ∧ WP cd_Mo_linkNow G R lm 115 = stp G R lm (7, 117, 0, 0, nI 56, 0, []) (WP cd_Mo_linkNow G R lm) ∧ WP cd_Mo_linkNow G R lm 117 = stp G R lm (7, 119, 0, 0, nI 7, 0, []) (WP cd_Mo_linkNow G R lm) ∧ WP cd_Mo_linkNow G R lm 119 = stp G R lm (1, 120, 2, 0, 0, 0, []) (WP cd_Mo_linkNow G R lm) ∧ WP cd_Mo_linkNow G R lm 120 = stp G R lm (14, 121, 0, 0, 0, 0, []) (WP cd_Mo_linkNow G R lm) ∧ WP cd_Mo_linkNow G R lm 121 = stp G R lm (12, 122, 0, 0, 0, 0, []) (WP cd_Mo_linkNow G R lm) ∧ WP cd_Mo_linkNow G R lm 122 = stp G R lm (1, 123, 1, 0, 0, 0, []) (WP cd_Mo_linkNow G R lm) ∧ WP cd_Mo_linkNow G R lm 123 = stp G R lm (12, 124, 0, 0, 0, 0, []) (WP cd_Mo_linkNow G R lm) ∧ WP cd_Mo_linkNow G R lm 124 = stp G R lm (7, 127, 0, 0, nI 9999, 0, []) (WP cd_Mo_linkNow G R lm) ∧ WP cd_Mo_linkNow G R lm 127 = stp G R lm (66, 128, 0, 0, 0, 0, []) (WP cd_Mo_linkNow G R lm) ∧ WP cd_Mo_linkNow G R lm 130 = stp G R lm (48, 133, 147, 0, 0, 0, []) (WP cd_Mo_linkNow G R lm) ∧ WP cd_Mo_linkNow G R lm 133 = stp G R lm (2, 134, 0, 0, 0, 0, []) (WP cd_Mo_linkNow G R lm) ∧ WP cd_Mo_linkNow G R lm 134 = stp G R lm (7, 135, 0, 0, nI 0, 0, []) (WP cd_Mo_linkNow G R lm) ∧ WP cd_Mo_linkNow G R lm 135 = stp G R lm (1, 136, 1, 0, 0, 0, []) (WP cd_Mo_linkNow G R lm) ∧ WP cd_Mo_linkNow G R lm 136 = stp G R lm (1, 137, 2, 0, 0, 0, []) (WP cd_Mo_linkNow G R lm) ∧ WP cd_Mo_linkNow G R lm 137 = stp G R lm (86, 140, 200, 3, 0, 0, [8]) (WP cd_Mo_linkNow G R lm) ∧ WP cd_Mo_linkNow G R lm 140 = stp G R lm (2, 141, 0, 0, 0, 0, []) (WP cd_Mo_linkNow G R lm) ∧ WP cd_Mo_linkNow G R lm 141 = stp G R lm (7, 142, 0, 0, nI 0, 0, []) (WP cd_Mo_linkNow G R lm) ∧ WP cd_Mo_linkNow G R lm 142 = stp G R lm (1, 143, 2, 0, 0, 0, []) (WP cd_Mo_linkNow G R lm) ∧ WP cd_Mo_linkNow G R lm 143 = stp G R lm (1, 144, 1, 0, 0, 0, []) (WP cd_Mo_linkNow G R lm) ∧ WP cd_Mo_linkNow G R lm 144 = stp G R lm (86, 147, 200, 3, 0, 0, [8]) (WP cd_Mo_linkNow G R lm) ∧ WP cd_Mo_linkNow G R lm 147 = stp G R lm (1, 148, 3, 0, 0, 0, []) (WP cd_Mo_linkNow G R lm) ∧ WP cd_Mo_linkNow G R lm 148 = stp G R lm (48, 151, 157, 0, 0, 0, []) (WP cd_Mo_linkNow G R lm) ∧ WP cd_Mo_linkNow G R lm 151 = stp G R lm (2, 152, 0, 0, 0, 0, []) (WP cd_Mo_linkNow G R lm) ∧ WP cd_Mo_linkNow G R lm 152 = stp G R lm (1, 153, 1, 0, 0, 0, []) (WP cd_Mo_linkNow G R lm) ∧ WP cd_Mo_linkNow G R lm 153 = stp G R lm (1, 154, 2, 0, 0, 0, []) (WP cd_Mo_linkNow G R lm) ∧ WP cd_Mo_linkNow G R lm 154 = stp G R lm (86, 157, 207, 2, 0, 0, [8]) (WP cd_Mo_linkNow G R lm) ∧ WP cd_Mo_linkNow G R lm 158 = stp G R lm (1, 159, 1, 0, 0, 0, []) (WP cd_Mo_linkNow G R lm) ∧ WP cd_Mo_linkNow G R lm 159 = stp G R lm (1, 160, 2, 0, 0, 0, []) (WP cd_Mo_linkNow G R lm) ∧ WP cd_Mo_linkNow G R lm 160 = stp G R lm (86, 163, 208, 2, 0, 0, [8]) (WP cd_Mo_linkNow G R lm) ∧ WP cd_Mo_linkNow G R lm 163 = stp G R lm (2, 164, 0, 0, 0, 0, []) (WP cd_Mo_linkNow G R lm) ∧ WP cd_Mo_linkNow G R lm 164 = stp G R lm (1, 165, 2, 0, 0, 0, []) (WP cd_Mo_linkNow G R lm) ∧ WP cd_Mo_linkNow G R lm 165 = stp G R lm (1, 166, 1, 0, 0, 0, []) (WP cd_Mo_linkNow G R lm) ∧ WP cd_Mo_linkNow G R lm 166 = stp G R lm (86, 169, 208, 2, 0, 0, [8]) (WP cd_Mo_linkNow G R lm) ∧ WP cd_Mo_linkNow G R lm 169 = stp G R lm (2, 170, 0, 0, 0, 0, []) (WP cd_Mo_linkNow G R lm) ∧ WP cd_Mo_linkNow G R lm 170 = stp G R lm (7, 171, 0, 0, nI 0, 0, []) (WP cd_Mo_linkNow G R lm) ∧ WP cd_Mo_linkNow G R lm 171 = stp G R lm (1, 173, 4, 0, 0, 0, []) (WP cd_Mo_linkNow G R lm) ∧ WP cd_Mo_linkNow G R lm 173 = stp G R lm (86, 176, 138, 2, 0, 0, [8]) (WP cd_Mo_linkNow G R lm) ∧ WP cd_Mo_linkNow G R lm 176 = stp G R lm (81, 177, 0, 0, 0, 0, []) (WP cd_Mo_linkNow G R lm) := ⟨WP_eq hG rfl, WP_eq hG rfl, WP_eq hG rfl, WP_eq hG rfl, WP_eq hG rfl, WP_eq hG rfl, WP_eq hG rfl, WP_eq hG rfl, WP_eq hG rfl, WP_eq hG rfl, WP_eq hG rfl, WP_eq hG rfl, WP_eq hG rfl, WP_eq hG rfl, WP_eq hG rfl, WP_eq hG rfl, WP_eq hG rfl, WP_eq hG rfl, WP_eq hG rfl, WP_eq hG rfl, WP_eq hG rfl, WP_eq hG rfl, WP_eq hG rfl, WP_eq hG rfl, WP_eq hG rfl, WP_eq hG rfl, WP_eq hG rfl, WP_eq hG rfl, WP_eq hG rfl, WP_eq hG rfl, WP_eq hG rfl, WP_eq hG rfl, WP_eq hG rfl, WP_eq hG rfl, WP_eq hG rfl, WP_eq hG rfl, WP_eq hG rfl, WP_eq hG rfl, WP_eq hG rfl, WP_eq hG rfl, WP_eq hG rfl, WP_eq hG rfl, WP_eq hG rfl, WP_eq hG rfl, WP_eq hG rfl, WP_eq hG rfl, WP_eq hG rfl, WP_eq hG rfl, WP_eq hG rfl, WP_eq hG rfl, WP_eq hG rfl, WP_eq hG rfl, WP_eq hG rfl, WP_eq hG rfl, WP_eq hG rfl, WP_eq hG rfl, WP_eq hG rfl, WP_eq hG rfl, WP_eq hG rfl, WP_eq hG rfl, WP_eq hG rfl, WP_eq hG rfl, WP_eq hG rfl, WP_eq hG rfl, WP_eq hG rfl, WP_eq hG rfl, WP_eq hG rfl, WP_eq hG rfl, WP_eq hG rfl, WP_eq hG rfl, WP_eq hG rfl, WP_eq hG rfl, WP_eq hG rfl, WP_eq hG rfl, WP_eq hG rfl, WP_eq hG rfl, WP_eq hG rfl, WP_eq hG rfl, WP_eq hG rfl, WP_eq hG rfl, WP_eq hG rfl, WP_eq hG rfl, WP_eq hG rfl, WP_eq hG rfl, WP_eq hG rfl, WP_eq hG rfl, WP_eq hG rfl, WP_eq hG rfl, WP_eq hG rfl, WP_eq hG rfl, WP_eq hG rfl, WP_eq hG rfl, WP_eq hG rfl, WP_eq hG rfl, WP_eq hG rfl, WP_eq hG rfl, WP_eq hG rfl, WP_eq hG rfl, WP_eq hG rfl, WP_eq hG rfl, WP_eq hG rfl, WP_eq hG rfl, WP_eq hG rfl, WP_eq hG rfl, WP_eq hG rfl, WP_eq hG rfl, WP_eq hG rfl, WP_eq hG rfl⟩
set_option maxHeartbeats 2000000 in
theorem m_link (d n : Nat) {Lo : Option LWS} {h : MH} {p : RW} {u s : Nat → Int32} (S : MSt h p u s n) (v : IV p) (hF : FO p Lo) (hR : RN p) (one other costs : Int32) (Q : RT) (k1 : ¬ aRef Lo p 0 one other costs = nI 0 → ∀ h1, MK h h1 → Q (some (.int (aRef Lo p 0 one other costs))) h1) (k2 : aRef Lo p 0 one other costs = nI 0 → ∀ h1, MK h h1 → Q (some (.int (ov p (mLnk p (nn one) (nn other) costs) (gC p (nn one) (nn other))).1)) (mFin h1 p (mLnk p (nn one) (nn other) costs) u s n 0)) : callD (d + 9) 209 [.ref 273, .int one, .int other, .int costs] h Q := by
  obtain ⟨hM, hp, hu, hs, h8, hn, h20⟩ := S
  obtain ⟨md, md1, md2⟩ := hR
  obtain ⟨w, tm, w1, t1, w2, t2, w3⟩ := iv_nums v
  have m3 : ∀ n : Nat, n < 2 ^ 31 → ¬ (-3 : Int32) = nI 0 := fun _ _ => by decide
  have m30 : ¬ (-3 : Int32) = nI 0 := by decide
  have m10 : ¬ (-1 : Int32) = nI 0 := by decide
  rw [E_Mo_linkNow]
  by_cases cp : isR one ∧ isR other ∧ ¬ one = other
  · by_cases cc : nI 0 ≤ costs ∧ costs ≤ nI 50
    · obtain ⟨r1, r2, r3⟩ := cp
      obtain ⟨a, ha, rfl⟩ := isR_n r1
      obtain ⟨b, hb, rfl⟩ := isR_n r2
      obtain ⟨c, hc, rfl⟩ := rng_n (by omega) cc
      have hab : a ≠ b := fun z => r3 (by rw [z])
      have bi : b01 (lN 0 ≤ (nI c).toInt64 ∧ (nI c).toInt64 ≤ lN 50) = nI 1 := b01_t (by rw [i2l_r _ _ (by omega)]; exact cc)
      have ea : aRef Lo p 0 (nI a) (nI b) (nI c) = if gC p a b = nI c ∨ jBarO Lo (eMs (-1) (a : Int) b c w tm md) = true then -3 else nI 0 := by
        unfold aRef
        rw [if_neg (by omega), if_neg (by omega), if_pos ⟨r1, r2, r3, cc⟩, nn_n (by omega), nn_n (by omega), w2, t2, md2, nI_toInt (by omega), nI_toInt (by omega), nI_toInt (by omega), nI_toInt (by omega), nI_toInt (by omega), nI_toInt (by omega)]
      have eC : gC (hia h 275) a b = gC p a b := by rw [hp]
      rw [nn_n (by omega), nn_n (by omega)] at k2
      have pp := b01_t (show isR (nI a) ∧ isR (nI b) ∧ ¬ nI a = nI b from ⟨r1, r2, r3⟩)
      have EP := fun Q => e_isPair (d + 5) (nI a) (nI b) h Q
      simp only [pp] at EP
      have pc := fun Q => e_cost (d + 7) a b ha hb hM Q
      simp only [eC] at pc
      by_cases c1 : gC p a b = nI c
      · rw [ea, if_pos (Or.inl c1)] at k1
        simp (disch := omega) only [UC_Mo_linkNow_157 (cm _), SA, SB, SC1, SC2, SG, SV, hM.1, EP, e_in, bi, pc, c1, eqI, Nat.one_ne_zero, true_or, or_true, true_implies, not_true_eq_false, not_false_eq_true, false_implies, true_and, and_true]
        exact k1 m30 h (MK.refl h)
      · simp (disch := omega) only [UC_Mo_linkNow_157 (cm _), SA, SB, SC1, SC2, SG, SV, hM.1, EP, e_in, bi, pc, c1, eqI, Nat.one_ne_zero, true_or, or_true, true_implies, not_true_eq_false, not_false_eq_true, false_implies, true_and, and_true]
        refine m_barred (d + 3) a b c w tm md (Lo := Lo) hM h20 (by rw [hp]; exact hF) ha hb hc (by rw [hp]; exact w2) (by rw [hp]; exact t2) (by rw [hp]; exact md2) (by omega) t1 md1 _ (fun h1 mk => ?_)
        by_cases c2 : jBarO Lo (eMs (-1) (a : Int) b c w tm md) = true
        · rw [ea, if_pos (Or.inr c2)] at k1
          rw [b01_t c2]
          simp (disch := omega) only [UC_Mo_linkNow_157 (cm _), SA, SB, SC1, SC2, SG, SV, eqI, Nat.one_ne_zero, true_or, or_true, true_implies, not_true_eq_false, not_false_eq_true, false_implies, true_and, and_true]
          exact k1 m30 h1 mk
        · rw [ea, if_neg (not_or.mpr ⟨c1, c2⟩)] at k2
          have K := k2 rfl h1 mk
          rw [b01_f c2]
          have S1 := MSt.K ⟨hM, hp, hu, hs, h8, hn, h20⟩ mk
          obtain ⟨hM1, hp1, hu1, hs1, h81, -, -⟩ := S1
          obtain ⟨m1, m2, m3, m4⟩ := hM1.row
          obtain ⟨w3, gc3, gr3⟩ := lk3_wi ha hb hab hc v.1 c1
          have P3 := lk3_pl ha hb hab hc v c1
          obtain ⟨b1, b2, b3, b4, gc, gr, b5⟩ := lk1_base (had := gC p a b) ha hb hab hc v.1
          have T := fun lm => m_l128 d a b n c ha hb hab hc hn (h := h1) (p := p) (u := u) hM1 hs1 h81 (gC p a b) b3 (fun z q => c1 (z.trans q.symm)) w3 P3 Q lm
          have KA := m_ka (d + 7) hM1
          rw [hp1, hu1] at KA
          have e5 : mLnk p a b (nI c) = mTL (mTL (mLk3 (mLk2 (mLk1 p a b (nI c) (gC p a b)) a b (gC p a b)) a b (nI c)) a b) b a := rfl
          rw [e5] at K
          have cK : ∀ lm, WP cd_Mo_linkNow (callD (d + 8)) Q lm 128 [] [some (.ref 273), some (.int (nI a)), some (.int (nI b)), some (.int (nI c)), some (.int (gC p a b))] (sIA (sIA h1 278 (ka u p)) 275 (mLk1 p a b (nI c) (gC p a b))) := fun lm => by rw [sIA_c h1 (a := 278) (b := 275) _ _ (by omega), T lm]; exact K
          unfold mLk1 mLk0 at cK
          have d3 : 24 ≤ 275 := by omega
          by_cases g0 : gC p a b = nI 0
          · rw [g0] at cK
            simp only [true_or, if_true] at cK
            simp (disch := omega) only [UC_Mo_linkNow_128_157 (cm _), SA, SB, SC1, SC2, SG, SV, SK, m1, m2, m3, m4, KA, g0, hp1, eqI, pk_mul, nI_add, nI_clamp, in_eq, up1_s, up1_n, Nat.reduceLeDiff, true_or, or_true, true_implies, not_true_eq_false, not_false_eq_true, false_implies, true_and, and_true]
            exact cK _
          · by_cases g1 : nI c = nI 0
            · rw [if_pos (Or.inr g1)] at cK
              simp (disch := omega) only [UC_Mo_linkNow_128_157 (cm _), SA, SB, SC1, SC2, SG, SV, SK, m1, m2, m3, m4, KA, g0, eq_true g1, hp1, pk_mul, nI_add, nI_clamp, in_eq, up1_s, up1_n, Nat.reduceLeDiff, true_or, or_true, true_implies, not_true_eq_false, not_false_eq_true, false_implies, true_and, and_true]
              exact cK _
            · rw [if_neg (not_or.mpr ⟨g0, g1⟩)] at cK
              simp (disch := omega) only [UC_Mo_linkNow_128_157 (cm _), SA, SB, SC1, SC2, SG, SV, SK, m1, m2, m3, m4, KA, g0, g1, hp1, pk_mul, nI_add, nI_clamp, in_eq, up1_s, up1_n, Nat.reduceLeDiff, true_or, or_true, true_implies, not_true_eq_false, not_false_eq_true, false_implies, true_and, and_true]
              exact cK _
    · have bi : b01 (lN 0 ≤ costs.toInt64 ∧ costs.toInt64 ≤ lN 50) = nI 0 := b01_f (by rw [i2l_r _ _ (by omega)]; exact cc)
      have ea : aRef Lo p 0 one other costs = -1 := by
        unfold aRef
        rw [if_neg (by omega), if_neg (by omega), if_neg (fun z => cc z.2.2.2)]
      rw [ea] at k1
      simp (disch := omega) only [UC_Mo_linkNow_157 (cm _), SA, SB, SC1, SC2, SG, SV, hM.1, e_isPair, b01_t cp, e_in, bi, eqI, Nat.one_ne_zero, true_or, or_true, true_implies, not_true_eq_false, not_false_eq_true, false_implies, true_and, and_true]
      exact k1 m10 h (MK.refl h)
  · have ea : aRef Lo p 0 one other costs = -1 := by
      unfold aRef
      rw [if_neg (by omega), if_neg (by omega), if_neg (fun z => cp ⟨z.1, z.2.1, z.2.2.1⟩)]
    rw [ea] at k1
    simp (disch := omega) only [UC_Mo_linkNow_157 (cm _), SA, SB, SC1, SC2, SG, SV, hM.1, e_isPair, b01_f cp, eqI, Nat.one_ne_zero, true_or, or_true, true_implies, not_true_eq_false, not_false_eq_true, false_implies, true_and, and_true]
    exact k1 m10 h (MK.refl h)
set_option maxRecDepth 20000 in
theorem UC_Mo_deliver_4 {G : GT} (hG : Gmono G) (R : RT) (lm : Nat × Nat) : WP cd_Mo_deliver G R lm 0 = stp G R lm (2, 1, 0, 0, 0, 0, []) (WP cd_Mo_deliver G R lm) ∧ WP cd_Mo_deliver G R lm 1 = stp G R lm (86, 4, 211, 0, 0, 0, [8]) (WP cd_Mo_deliver G R lm) ∧ WP cd_Mo_deliver G R lm 5 = stp G R lm (2, 6, 0, 0, 0, 0, []) (WP cd_Mo_deliver G R lm) ∧ WP cd_Mo_deliver G R lm 6 = stp G R lm (58, 9, 8, 3, 0, 0, []) (WP cd_Mo_deliver G R lm) ∧ WP cd_Mo_deliver G R lm 9 = stp G R lm (1, 10, 1, 0, 0, 0, []) (WP cd_Mo_deliver G R lm) ∧ WP cd_Mo_deliver G R lm 10 = stp G R lm (76, 13, 154, 1, 0, 0, []) (WP cd_Mo_deliver G R lm) ∧ WP cd_Mo_deliver G R lm 13 = stp G R lm (62, 14, 0, 0, 0, 0, []) (WP cd_Mo_deliver G R lm) ∧ WP cd_Mo_deliver G R lm 14 = stp G R lm (4, 15, 2, 0, 0, 0, []) (WP cd_Mo_deliver G R lm) ∧ WP cd_Mo_deliver G R lm 15 = stp G R lm (2, 16, 0, 0, 0, 0, []) (WP cd_Mo_deliver G R lm) ∧ WP cd_Mo_deliver G R lm 16 = stp G R lm (58, 19, 8, 3, 0, 0, []) (WP cd_Mo_deliver G R lm) ∧ WP cd_Mo_deliver G R lm 19 = stp G R lm (1, 20, 1, 0, 0, 0, []) (WP cd_Mo_deliver G R lm) ∧ WP cd_Mo_deliver G R lm 20 = stp G R lm (76, 23, 154, 1, 0, 0, []) (WP cd_Mo_deliver G R lm) ∧ WP cd_Mo_deliver G R lm 23 = stp G R lm (7, 24, 0, 0, nI 1, 0, []) (WP cd_Mo_deliver G R lm) ∧ WP cd_Mo_deliver G R lm 24 = stp G R lm (12, 25, 0, 0, 0, 0, []) (WP cd_Mo_deliver G R lm) ∧ WP cd_Mo_deliver G R lm 25 = stp G R lm (62, 26, 0, 0, 0, 0, []) (WP cd_Mo_deliver G R lm) ∧ WP cd_Mo_deliver G R lm 26 = stp G R lm (4, 27, 3, 0, 0, 0, []) (WP cd_Mo_deliver G R lm) ∧ WP cd_Mo_deliver G R lm 27 = stp G R lm (2, 28, 0, 0, 0, 0, []) (WP cd_Mo_deliver G R lm) ∧ WP cd_Mo_deliver G R lm 28 = stp G R lm (58, 31, 8, 3, 0, 0, []) (WP cd_Mo_deliver G R lm) ∧ WP cd_Mo_deliver G R lm 31 = stp G R lm (1, 32, 1, 0, 0, 0, []) (WP cd_Mo_deliver G R lm) ∧ WP cd_Mo_deliver G R lm 32 = stp G R lm (76, 35, 154, 1, 0, 0, []) (WP cd_Mo_deliver G R lm) ∧ WP cd_Mo_deliver G R lm 35 = stp G R lm (7, 36, 0, 0, nI 2, 0, []) (WP cd_Mo_deliver G R lm) ∧ WP cd_Mo_deliver G R lm 36 = stp G R lm (12, 37, 0, 0, 0, 0, []) (WP cd_Mo_deliver G R lm) ∧ WP cd_Mo_deliver G R lm 37 = stp G R lm (62, 38, 0, 0, 0, 0, []) (WP cd_Mo_deliver G R lm) ∧ WP cd_Mo_deliver G R lm 38 = stp G R lm (4, 40, 4, 0, 0, 0, []) (WP cd_Mo_deliver G R lm) ∧ WP cd_Mo_deliver G R lm 40 = stp G R lm (2, 41, 0, 0, 0, 0, []) (WP cd_Mo_deliver G R lm) ∧ WP cd_Mo_deliver G R lm 41 = stp G R lm (58, 44, 8, 3, 0, 0, []) (WP cd_Mo_deliver G R lm) ∧ WP cd_Mo_deliver G R lm 44 = stp G R lm (7, 46, 0, 0, nI 56, 0, []) (WP cd_Mo_deliver G R lm) ∧ WP cd_Mo_deliver G R lm 46 = stp G R lm (7, 48, 0, 0, nI 7, 0, []) (WP cd_Mo_deliver G R lm) ∧ WP cd_Mo_deliver G R lm 48 = stp G R lm (1, 50, 4, 0, 0, 0, []) (WP cd_Mo_deliver G R lm) ∧ WP cd_Mo_deliver G R lm 50 = stp G R lm (14, 51, 0, 0, 0, 0, []) (WP cd_Mo_deliver G R lm) ∧ WP cd_Mo_deliver G R lm 51 = stp G R lm (12, 52, 0, 0, 0, 0, []) (WP cd_Mo_deliver G R lm) ∧ WP cd_Mo_deliver G R lm 52 = stp G R lm (1, 53, 3, 0, 0, 0, []) (WP cd_Mo_deliver G R lm) ∧ WP cd_Mo_deliver G R lm 53 = stp G R lm (12, 54, 0, 0, 0, 0, []) (WP cd_Mo_deliver G R lm) ∧ WP cd_Mo_deliver G R lm 54 = stp G R lm (2, 55, 0, 0, 0, 0, []) (WP cd_Mo_deliver G R lm) ∧ WP cd_Mo_deliver G R lm 55 = stp G R lm (58, 58, 8, 3, 0, 0, []) (WP cd_Mo_deliver G R lm) ∧ WP cd_Mo_deliver G R lm 58 = stp G R lm (1, 59, 1, 0, 0, 0, []) (WP cd_Mo_deliver G R lm) ∧ WP cd_Mo_deliver G R lm 59 = stp G R lm (76, 62, 154, 1, 0, 0, []) (WP cd_Mo_deliver G R lm) ∧ WP cd_Mo_deliver G R lm 62 = stp G R lm (7, 63, 0, 0, nI 3, 0, []) (WP cd_Mo_deliver G R lm) ∧ WP cd_Mo_deliver G R lm 63 = stp G R lm (12, 64, 0, 0, 0, 0, []) (WP cd_Mo_deliver G R lm) ∧ WP cd_Mo_deliver G R lm 64 = stp G R lm (62, 65, 0, 0, 0, 0, []) (WP cd_Mo_deliver G R lm) ∧ WP cd_Mo_deliver G R lm 65 = stp G R lm (66, 66, 0, 0, 0, 0, []) (WP cd_Mo_deliver G R lm) ∧ WP cd_Mo_deliver G R lm 66 = stp G R lm (2, 67, 0, 0, 0, 0, []) (WP cd_Mo_deliver G R lm) ∧ WP cd_Mo_deliver G R lm 67 = stp G R lm (1, 68, 1, 0, 0, 0, []) (WP cd_Mo_deliver G R lm) ∧ WP cd_Mo_deliver G R lm 68 = stp G R lm (86, 71, 212, 1, 0, 0, [8]) (WP cd_Mo_deliver G R lm) ∧ WP cd_Mo_deliver G R lm 71 = stp G R lm (1, 73, 4, 0, 0, 0, []) (WP cd_Mo_deliver G R lm) ∧ WP cd_Mo_deliver G R lm 73 = stp G R lm (48, 76, 98, 0, 0, 0, []) (WP cd_Mo_deliver G R lm) ∧ WP cd_Mo_deliver G R lm 76 = stp G R lm (2, 77, 0, 0, 0, 0, []) (WP cd_Mo_deliver G R lm) ∧ WP cd_Mo_deliver G R lm 77 = stp G R lm (7, 78, 0, 0, nI 2, 0, []) (WP cd_Mo_deliver G R lm) ∧ WP cd_Mo_deliver G R lm 78 = stp G R lm (1, 80, 4, 0, 0, 0, []) (WP cd_Mo_deliver G R lm) ∧ WP cd_Mo_deliver G R lm 80 = stp G R lm (1, 81, 2, 0, 0, 0, []) (WP cd_Mo_deliver G R lm) ∧ WP cd_Mo_deliver G R lm 81 = stp G R lm (7, 82, 0, 0, nI 1, 0, []) (WP cd_Mo_deliver G R lm) ∧ WP cd_Mo_deliver G R lm 82 = stp G R lm (42, 85, 91, 0, 0, 0, []) (WP cd_Mo_deliver G R lm) ∧ WP cd_Mo_deliver G R lm 85 = stp G R lm (7, 86, 0, 0, nI 1, 0, []) (WP cd_Mo_deliver G R lm) ∧ WP cd_Mo_deliver G R lm 86 = stp G R lm (1, 87, 3, 0, 0, 0, []) (WP cd_Mo_deliver G R lm) ∧ WP cd_Mo_deliver G R lm 87 = stp G R lm (18, 88, 0, 0, 0, 0, []) (WP cd_Mo_deliver G R lm) ∧ WP cd_Mo_deliver G R lm 88 = stp G R lm (40, 92, 0, 0, 0, 0, []) (WP cd_Mo_deliver G R lm) ∧ WP cd_Mo_deliver G R lm 91 = stp G R lm (7, 92, 0, 0, nI 0, 0, []) (WP cd_Mo_deliver G R lm) ∧ WP cd_Mo_deliver G R lm 92 = stp G R lm (86, 95, 201, 3, 0, 0, [8]) (WP cd_Mo_deliver G R lm) ∧ WP cd_Mo_deliver G R lm 95 = stp G R lm (40, 142, 0, 0, 0, 0, []) (WP cd_Mo_deliver G R lm) ∧ WP cd_Mo_deliver G R lm 98 = stp G R lm (2, 99, 0, 0, 0, 0, []) (WP cd_Mo_deliver G R lm) ∧ WP cd_Mo_deliver G R lm 99 = stp G R lm (58, 102, 8, 3, 0, 0, []) (WP cd_Mo_deliver G R lm) ∧ WP cd_Mo_deliver G R lm 102 = stp G R lm (1, 104, 4, 0, 0, 0, []) (WP cd_Mo_deliver G R lm) ∧ WP cd_Mo_deliver G R lm 104 = stp G R lm (76, 107, 142, 1, 0, 0, []) (WP cd_Mo_deliver G R lm) ∧ WP cd_Mo_deliver G R lm 107 = stp G R lm (7, 108, 0, 0, nI 3, 0, []) (WP cd_Mo_deliver G R lm) ∧ WP cd_Mo_deliver G R lm 108 = stp G R lm (12, 109, 0, 0, 0, 0, []) (WP cd_Mo_deliver G R lm) ∧ WP cd_Mo_deliver G R lm 109 = stp G R lm (62, 110, 0, 0, 0, 0, []) (WP cd_Mo_deliver G R lm) ∧ WP cd_Mo_deliver G R lm 110 = stp G R lm (48, 113, 134, 0, 0, 0, []) (WP cd_Mo_deliver G R lm) ∧ WP cd_Mo_deliver G R lm 113 = stp G R lm (2, 114, 0, 0, 0, 0, []) (WP cd_Mo_deliver G R lm) ∧ WP cd_Mo_deliver G R lm 114 = stp G R lm (1, 116, 4, 0, 0, 0, []) (WP cd_Mo_deliver G R lm) ∧ WP cd_Mo_deliver G R lm 116 = stp G R lm (1, 117, 2, 0, 0, 0, []) (WP cd_Mo_deliver G R lm) ∧ WP cd_Mo_deliver G R lm 117 = stp G R lm (7, 118, 0, 0, nI 1, 0, []) (WP cd_Mo_deliver G R lm) ∧ WP cd_Mo_deliver G R lm 118 = stp G R lm (42, 121, 127, 0, 0, 0, []) (WP cd_Mo_deliver G R lm) ∧ WP cd_Mo_deliver G R lm 121 = stp G R lm (7, 122, 0, 0, nI 1, 0, []) (WP cd_Mo_deliver G R lm) ∧ WP cd_Mo_deliver G R lm 122 = stp G R lm (1, 123, 3, 0, 0, 0, []) (WP cd_Mo_deliver G R lm) ∧ WP cd_Mo_deliver G R lm 123 = stp G R lm (18, 124, 0, 0, 0, 0, []) (WP cd_Mo_deliver G R lm) ∧ WP cd_Mo_deliver G R lm 124 = stp G R lm (40, 128, 0, 0, 0, 0, []) (WP cd_Mo_deliver G R lm) ∧ WP cd_Mo_deliver G R lm 127 = stp G R lm (7, 128, 0, 0, nI 0, 0, []) (WP cd_Mo_deliver G R lm) ∧ WP cd_Mo_deliver G R lm 128 = stp G R lm (86, 131, 203, 2, 0, 0, [8]) (WP cd_Mo_deliver G R lm) ∧ WP cd_Mo_deliver G R lm 131 = stp G R lm (40, 142, 0, 0, 0, 0, []) (WP cd_Mo_deliver G R lm) ∧ WP cd_Mo_deliver G R lm 134 = stp G R lm (2, 135, 0, 0, 0, 0, []) (WP cd_Mo_deliver G R lm) ∧ WP cd_Mo_deliver G R lm 135 = stp G R lm (1, 137, 4, 0, 0, 0, []) (WP cd_Mo_deliver G R lm) ∧ WP cd_Mo_deliver G R lm 137 = stp G R lm (1, 138, 3, 0, 0, 0, []) (WP cd_Mo_deliver G R lm) ∧ WP cd_Mo_deliver G R lm 138 = stp G R lm (1, 139, 2, 0, 0, 0, []) (WP cd_Mo_deliver G R lm) ∧ WP cd_Mo_deliver G R lm 139 = stp G R lm (86, 142, 213, 3, 0, 0, [8]) (WP cd_Mo_deliver G R lm) ∧ WP cd_Mo_deliver G R lm 142 = stp G R lm (2, 143, 0, 0, 0, 0, []) (WP cd_Mo_deliver G R lm) ∧ WP cd_Mo_deliver G R lm 143 = stp G R lm (58, 146, 8, 3, 0, 0, []) (WP cd_Mo_deliver G R lm) ∧ WP cd_Mo_deliver G R lm 146 = stp G R lm (7, 147, 0, 0, nI 5, 0, []) (WP cd_Mo_deliver G R lm) ∧ WP cd_Mo_deliver G R lm 147 = stp G R lm (38, 148, 0, 0, 0, 0, []) (WP cd_Mo_deliver G R lm) ∧ WP cd_Mo_deliver G R lm 148 = stp G R lm (62, 149, 0, 0, 0, 0, []) (WP cd_Mo_deliver G R lm) ∧ WP cd_Mo_deliver G R lm 149 = stp G R lm (2, 150, 0, 0, 0, 0, []) (WP cd_Mo_deliver G R lm) ∧ WP cd_Mo_deliver G R lm 150 = stp G R lm (58, 153, 8, 3, 0, 0, []) (WP cd_Mo_deliver G R lm) ∧ WP cd_Mo_deliver G R lm 153 = stp G R lm (7, 154, 0, 0, nI 5, 0, []) (WP cd_Mo_deliver G R lm) ∧ WP cd_Mo_deliver G R lm 154 = stp G R lm (62, 155, 0, 0, 0, 0, []) (WP cd_Mo_deliver G R lm) ∧ WP cd_Mo_deliver G R lm 155 = stp G R lm (7, 158, 0, 0, nI 999, 0, []) (WP cd_Mo_deliver G R lm) ∧ WP cd_Mo_deliver G R lm 158 = stp G R lm (44, 161, 165, 0, 0, 0, []) (WP cd_Mo_deliver G R lm) ∧ WP cd_Mo_deliver G R lm 161 = stp G R lm (7, 162, 0, 0, nI 1, 0, []) (WP cd_Mo_deliver G R lm) ∧ WP cd_Mo_deliver G R lm 162 = stp G R lm (40, 166, 0, 0, 0, 0, []) (WP cd_Mo_deliver G R lm) ∧ WP cd_Mo_deliver G R lm 165 = stp G R lm (7, 166, 0, 0, nI 0, 0, []) (WP cd_Mo_deliver G R lm) ∧ WP cd_Mo_deliver G R lm 166 = stp G R lm (12, 167, 0, 0, 0, 0, []) (WP cd_Mo_deliver G R lm) ∧ WP cd_Mo_deliver G R lm 167 = stp G R lm (66, 168, 0, 0, 0, 0, []) (WP cd_Mo_deliver G R lm) ∧ WP cd_Mo_deliver G R lm 168 = stp G R lm (1, 169, 2, 0, 0, 0, []) (WP cd_Mo_deliver G R lm) ∧ WP cd_Mo_deliver G R lm 169 = stp G R lm (81, 170, 0, 0, 0, 0, []) (WP cd_Mo_deliver G R lm) := ⟨WP_eq hG rfl, WP_eq hG rfl, WP_eq hG rfl, WP_eq hG rfl, WP_eq hG rfl, WP_eq hG rfl, WP_eq hG rfl, WP_eq hG rfl, WP_eq hG rfl, WP_eq hG rfl, WP_eq hG rfl, WP_eq hG rfl, WP_eq hG rfl, WP_eq hG rfl, WP_eq hG rfl, WP_eq hG rfl, WP_eq hG rfl, WP_eq hG rfl, WP_eq hG rfl, WP_eq hG rfl, WP_eq hG rfl, WP_eq hG rfl, WP_eq hG rfl, WP_eq hG rfl, WP_eq hG rfl, WP_eq hG rfl, WP_eq hG rfl, WP_eq hG rfl, WP_eq hG rfl, WP_eq hG rfl, WP_eq hG rfl, WP_eq hG rfl, WP_eq hG rfl, WP_eq hG rfl, WP_eq hG rfl, WP_eq hG rfl, WP_eq hG rfl, WP_eq hG rfl, WP_eq hG rfl, WP_eq hG rfl, WP_eq hG rfl, WP_eq hG rfl, WP_eq hG rfl, WP_eq hG rfl, WP_eq hG rfl, WP_eq hG rfl, WP_eq hG rfl, WP_eq hG rfl, WP_eq hG rfl, WP_eq hG rfl, WP_eq hG rfl, WP_eq hG rfl, WP_eq hG rfl, WP_eq hG rfl, WP_eq hG rfl, WP_eq hG rfl, WP_eq hG rfl, WP_eq hG rfl, WP_eq hG rfl, WP_eq hG rfl, WP_eq hG rfl, WP_eq hG rfl, WP_eq hG rfl, WP_eq hG rfl, WP_eq hG rfl, WP_eq hG rfl, WP_eq hG rfl, WP_eq hG rfl, WP_eq hG rfl, WP_eq hG rfl, WP_eq hG rfl, WP_eq hG rfl, WP_eq hG rfl, WP_eq hG rfl, WP_eq hG rfl, WP_eq hG rfl, WP_eq hG rfl, WP_eq hG rfl, WP_eq hG rfl, WP_eq hG rfl, WP_eq hG rfl, WP_eq hG rfl, WP_eq hG rfl, WP_eq hG rfl, WP_eq hG rfl, WP_eq hG rfl, WP_eq hG rfl, WP_eq hG rfl, WP_eq hG rfl, WP_eq hG rfl, WP_eq hG rfl, WP_eq hG rfl, WP_eq hG rfl, WP_eq hG rfl, WP_eq hG rfl, WP_eq hG rfl, WP_eq hG rfl, WP_eq hG rfl, WP_eq hG rfl, WP_eq hG rfl, WP_eq hG rfl, WP_eq hG rfl⟩
theorem dl_eq {Lo : Option LWS} {p : RW} {k f t dd : Nat} (hm : MV p (jNx Lo p) k f t dd) : dl Lo p = mDlv p (jNx Lo p) k f t dd := by
  obtain ⟨q1, q2, q3, q4, e1, e2, e3, e4⟩ := hm
  unfold dl
  rw [e1, e2, e3, e4, nI_clamp (by omega), nI_clamp (by omega), nI_clamp (by omega), nI_clamp (by omega)]
theorem IM.vs {p : RW} (m : IM p) : MVs p := fun i hi => by
  obtain ⟨k, f, t, d, mv, -⟩ := m i hi
  exact ⟨k, f, t, d, mv⟩
/-- the next message is delivered, whatever room there is -/
theorem m_deliver (d : Nat) {Lo : Option LWS} {h : MH} {p : RW} (hM : MoS h) (hp : hia h 275 = p) (h20 : hfi h 273 20 = nI 0) (v : WI p 420) (hF : FO p Lo) (hR : RN p) (hq : 0 < ql p) (Q : RT) (kk : ∀ h1, MK h h1 → Q (some (.int (p (154 + 4 * jNx Lo p)))) (sIA h1 275 (dl Lo p))) : callD (d + 9) 214 [.ref 273] h Q := by
  obtain ⟨md, md1, md2⟩ := hR
  obtain ⟨⟨c, t, s⟩, m, ⟨tm, t1, t2⟩, hQ⟩ := v
  have hq2 := hQ.2
  rw [E_Mo_deliver]
  simp (disch := omega) only [UC_Mo_deliver_4 (cm _), SA, SB, SC1, SC2, SG, SV, hM.1, true_and]
  refine m_next (d + 1) (ql p) tm md hM hp h20 hF (IM.vs m) hQ.1 (by omega) t2 md2 t1 md1 _ (fun h1 mk => ?_)
  obtain ⟨n1, n2⟩ := jNx_ok Lo hq (by omega)
  obtain ⟨k, f, t', dd, mv, -⟩ := m _ n2
  have K := kk h1 mk
  have eh : hia h1 275 = p := by rw [mk.1.2.2.2.2.2.2.1]; exact hp
  have T := t4_deliver d (jNx Lo p) k f t' dd (h := h1) (mk.S hM) (by rw [eh]; exact mv) (by rw [eh]; exact hQ) (by rw [eh]; exact n2) (by rw [eh]; exact (s t' mv.2.2.1).2.1) Q (hcc h, hcu h)
  rw [eh, ← dl_eq mv, ← mv.2.2.2.2.1] at T
  rw [n1]
  simp only [SV]
  rw [T]
  exact K
theorem m_step (d n : Nat) {Lo : Option LWS} {h : MH} {p : RW} {u s : Nat → Int32} (S : MSt h p u s n) (v : IV p) (hF : FO p Lo) (hR : RN p) (Q : RT) (k1 : p 6 = nI 0 → Q (some (.int (-3))) h) (k2 : ¬ p 6 = nI 0 → ∀ h1, MK h h1 → Q (some (.int (ov p (dl Lo p) (p (154 + 4 * jNx Lo p))).1)) (mFin h1 p (dl Lo p) u s n 1)) : callD (d + 10) 215 [.ref 273] h Q := by
  obtain ⟨hM, hp, hu, hs, h8, hn, h20⟩ := S
  obtain ⟨m1, m2, m3, m4⟩ := hM.row
  obtain ⟨w, tm, w1, t1, w2, t2, w3⟩ := iv_nums v
  rw [E_Mo_stepNow]
  have KA := m_ka (d + 8) hM
  rw [hp, hu] at KA
  by_cases c : p 6 = nI 0
  · simp (disch := omega) only [U_Mo_stepNow (cm _), SA, SB, SC1, SC2, SG, SV, m1, m2, m3, m4, hp, c, nI_clamp, in_eq, true_implies, not_true_eq_false, not_false_eq_true, false_implies, true_and, and_true]
    exact k1 c
  · simp (disch := omega) only [U_Mo_stepNow (cm _), SA, SB, SC1, SC2, SG, SV, m1, m2, m3, m4, hp, c, KA, nI_clamp, in_eq, true_implies, not_true_eq_false, not_false_eq_true, false_implies, true_and, and_true]
    refine m_deliver d (h := sIA h 278 (ka u p)) (Lo := Lo) hM (by rw [hia_n _ _ (by omega)]; exact hp) h20 (v.1.mono (by omega)) hF hR (by rw [w3]; rw [w2, eqI (by omega) (by omega)] at c; omega) _ (fun h1 mk => ?_)
    have K := k2 c (sIA h1 278 u) (by
      obtain ⟨⟨x1, x2, x3, x4, x5, x6, x7, x8⟩, x9, x10, x11⟩ := mk
      refine ⟨⟨x1, x2, x3, x4, x5, x6, ?_, x8⟩, x9, x10, x11⟩
      show up1 (hia h1) 278 u = hia h
      rw [x7]
      show up1 (up1 (hia h) 278 (ka u p)) 278 u = hia h
      rw [up1_up1, ← hu, up1_id])
    have M1 : MoS h1 := mk.S (h := sIA h 278 (ka u p)) hM
    have e278 : hia h1 278 = ka u p := by rw [mk.1.2.2.2.2.2.2.1]; exact hia_s h 278 _
    have e279 : hia h1 279 = s := by rw [mk.1.2.2.2.2.2.2.1]; exact (hia_n h _ (by omega)).trans hs
    have e8 : hfi h1 273 8 = nI n := (mk.2.1 273 8 (by omega)).trans h8
    have OV := m_over (d + 7) n 1 hn (h := sIA h1 278 u) (p := p) (q := dl Lo p) (u := u) (s := s) M1 ((hia_n h1 _ (by omega)).trans e279) e8 (p (154 + 4 * jNx Lo p))
    have e3 : sIA (sIA (sIA h1 278 u) 275 (dl Lo p)) 278 (ka u p) = sIA h1 275 (dl Lo p) := by
      rw [sIA_c h1 (a := 278) (b := 275) u (dl Lo p) (by omega), SK.2.2.2.1]
      have := sIA_id (sIA h1 275 (dl Lo p)) 278
      rw [hia_n _ _ (by omega), e278] at this
      exact this
    rw [e3] at OV
    have k1' : hkd (sIA h1 275 (dl Lo p)) 273 = 8 := M1.1
    simp (disch := omega) only [U_Mo_stepNow (cm _), SA, SB, SC1, SC2, SV, k1', true_and, OV]
    exact K
theorem m_cut (d n : Nat) {Lo : Option LWS} {h : MH} {p : RW} {u s : Nat → Int32} (S : MSt h p u s n) (v : IV p) (one : Int32) (Q : RT) (k1 : ¬ aRef Lo p 2 one 0 0 = nI 0 → Q (some (.int (aRef Lo p 2 one 0 0))) h) (k2 : aRef Lo p 2 one 0 0 = nI 0 → Q (some (.int (ov p (mCut p (nn one)) (mMany (gR p (nn one) 4))).1)) (mFin h p (mCut p (nn one)) u s n 2)) : callD (d + 9) 217 [.ref 273, .int one] h Q := by
  obtain ⟨hM, hp, hu, hs, h8, hn, h20⟩ := S
  obtain ⟨m1, m2, m3, m4⟩ := hM.row
  have m30 : ¬ (-3 : Int32) = nI 0 := by decide
  have m10 : ¬ (-1 : Int32) = nI 0 := by decide
  rw [E_Mo_cutNow]
  unfold aRef at k1 k2
  rw [if_neg (by omega), if_pos rfl] at k1 k2
  by_cases c1 : isR one
  · rw [if_pos c1] at k1 k2
    obtain ⟨r, hr, rfl⟩ := isR_n c1
    rw [nn_n (by omega)] at k1 k2
    have KA := m_ka (d + 7) hM
    rw [hp, hu] at KA
    have ER := fun Q => e_isRouter (d + 6) (nI r) h Q
    simp only [b01_t c1] at ER
    have g3 : hia h 275 (105 + 7 * r + 3) = gR p r 3 := by rw [hp]; rfl
    have g4 : hia h 275 (105 + 7 * r + 4) = gR p r 4 := by rw [hp]; rfl
    by_cases c2 : gR p r 3 = nI 0
    · rw [if_pos c2] at k1
      simp (disch := omega) only [U_Mo_cutNow (cm _), SA, SB, SC1, SC2, SG, SV, m1, m2, m3, m4, ER, e_routerAt, g3, c2, eqI, Nat.one_ne_zero, nI_add, nI_clamp, in_eq, true_implies, not_true_eq_false, not_false_eq_true, false_implies, true_and, and_true]
      exact k1 m30
    · rw [if_neg c2] at k2
      have K := k2 rfl
      have L := fun lm => l_cutNow (d + 7) r hr (nI (105 + 7 * r)) (gR p r 4) Q lm 7 0 (sIA h 278 (ka u p)) hM rfl
      have e275 : hia (sIA h 278 (ka u p)) 275 = p := (hia_n h _ (by omega)).trans hp
      rw [e275] at L
      have w1 : WI (mCutT p r (gR p r 4)) 400 := wi_cutT hr 7 0 p 400 (by omega) v.1
      have w2 := w1.up hr (j := 4) (v := nI 0) (by omega) (fun e => by omega) (fun e => by omega) (fun e => by omega) (fun _ => m7_0) (fun _ => bt_0 r hr)
      have w3 := w2.up hr (j := 6) (v := nI 0) (by omega) (fun e => by omega) (fun e => by omega) (fun e => by omega) (fun e => by omega)
      have EN := e_ends (d + 1) r hr (h := sIA (sIA h 278 (ka u p)) 275 (up1 (up1 (mCutT p r (gR p r 4)) (105 + 7 * r + 4) (nI 0)) (105 + 7 * r + 6) (nI 0))) hM (by rw [hia_s]; exact QL_mono w3.2.2.2 (by omega)) (by rw [hia_s]; exact (w3.1.2.2 r hr).2.1)
      rw [hia_s, SK.2.2.2.1, show mEnds (up1 (up1 (mCutT p r (gR p r 4)) (105 + 7 * r + 4) (nI 0)) (105 + 7 * r + 6) (nI 0)) r = mCut p r from rfl] at EN
      have OV := m_over (d + 6) n 2 hn (h := h) (p := p) (q := mCut p r) (u := u) (s := s) hM hs h8 (mMany (gR p r 4))
      rw [← sIA_c h (a := 278) (b := 275) _ _ (by omega)] at OV
      unfold mCutT at EN
      simp (disch := omega) only [U_Mo_cutNow (cm _), SA, SB, SC1, SC2, SG, SV, m1, m2, m3, m4, ER, e_routerAt, KA, hp, g3, g4, c2, eqI, Nat.one_ne_zero, nI_add, nI_clamp, in_eq, up1_s, up1_n, true_implies, not_true_eq_false, not_false_eq_true, false_implies, true_and, and_true]
      rw [L]
      simp (disch := omega) only [U_Mo_cutNow (cm _), SA, SB, SC1, SC2, SG, SV, SK, m1, m2, m3, m4, EN, e_many, OV, nI_add, nI_clamp, in_eq, up1_s, up1_n, Nat.reduceLeDiff, true_implies, not_true_eq_false, not_false_eq_true, false_implies, true_and, and_true]
      exact K
  · rw [if_neg c1] at k1
    have ER := fun Q => e_isRouter (d + 6) one h Q
    simp only [b01_f c1] at ER
    simp (disch := omega) only [U_Mo_cutNow (cm _), SA, SB, SC1, SC2, SG, SV, m1, m2, m3, m4, ER, eqI, Nat.one_ne_zero, true_implies, not_true_eq_false, not_false_eq_true, false_implies, true_and, and_true]
    exact k1 m10
