/-! ===== the reference is made: more arrays ===== -/
set_option maxRecDepth 20000 in
theorem US_Mo_init_84 {G : GT} (hG : Gmono G) (R : RT) (lm : Nat × Nat) : WP cd_Mo_init G R lm 84 = stp G R lm (2, 85, 0, 0, 0, 0, []) (WP cd_Mo_init G R lm) ∧ WP cd_Mo_init G R lm 85 = stp G R lm (7, 87, 0, 0, nI 96, 0, []) (WP cd_Mo_init G R lm) ∧ WP cd_Mo_init G R lm 87 = stp G R lm (71, 89, 0, 0, 0, 0, []) (WP cd_Mo_init G R lm) ∧ WP cd_Mo_init G R lm 89 = stp G R lm (61, 92, 8, 22, 0, 0, []) (WP cd_Mo_init G R lm) := ⟨WP_eq hG rfl, WP_eq hG rfl, WP_eq hG rfl, WP_eq hG rfl⟩
set_option maxRecDepth 20000 in
theorem US_Mo_init_92 {G : GT} (hG : Gmono G) (R : RT) (lm : Nat × Nat) : WP cd_Mo_init G R lm 92 = stp G R lm (2, 93, 0, 0, 0, 0, []) (WP cd_Mo_init G R lm) ∧ WP cd_Mo_init G R lm 93 = stp G R lm (7, 96, 0, 0, nI 400, 0, []) (WP cd_Mo_init G R lm) ∧ WP cd_Mo_init G R lm 96 = stp G R lm (71, 98, 0, 0, 0, 0, []) (WP cd_Mo_init G R lm) ∧ WP cd_Mo_init G R lm 98 = stp G R lm (61, 101, 8, 24, 0, 0, []) (WP cd_Mo_init G R lm) := ⟨WP_eq hG rfl, WP_eq hG rfl, WP_eq hG rfl, WP_eq hG rfl⟩
set_option maxRecDepth 20000 in
theorem US_Mo_init_101 {G : GT} (hG : Gmono G) (R : RT) (lm : Nat × Nat) : WP cd_Mo_init G R lm 101 = stp G R lm (2, 102, 0, 0, 0, 0, []) (WP cd_Mo_init G R lm) ∧ WP cd_Mo_init G R lm 102 = stp G R lm (7, 105, 0, 0, nI 400, 0, []) (WP cd_Mo_init G R lm) ∧ WP cd_Mo_init G R lm 105 = stp G R lm (71, 107, 0, 0, 0, 0, []) (WP cd_Mo_init G R lm) ∧ WP cd_Mo_init G R lm 107 = stp G R lm (61, 110, 8, 25, 0, 0, []) (WP cd_Mo_init G R lm) := ⟨WP_eq hG rfl, WP_eq hG rfl, WP_eq hG rfl, WP_eq hG rfl⟩
set_option maxRecDepth 20000 in
theorem US_Mo_init_110 {G : GT} (hG : Gmono G) (R : RT) (lm : Nat × Nat) : WP cd_Mo_init G R lm 110 = stp G R lm (2, 111, 0, 0, 0, 0, []) (WP cd_Mo_init G R lm) ∧ WP cd_Mo_init G R lm 111 = stp G R lm (7, 114, 0, 0, nI 400, 0, []) (WP cd_Mo_init G R lm) ∧ WP cd_Mo_init G R lm 114 = stp G R lm (71, 116, 0, 0, 0, 0, []) (WP cd_Mo_init G R lm) ∧ WP cd_Mo_init G R lm 116 = stp G R lm (61, 119, 8, 27, 0, 0, []) (WP cd_Mo_init G R lm) := ⟨WP_eq hG rfl, WP_eq hG rfl, WP_eq hG rfl, WP_eq hG rfl⟩
set_option maxRecDepth 20000 in
theorem US_Mo_init_119 {G : GT} (hG : Gmono G) (R : RT) (lm : Nat × Nat) : WP cd_Mo_init G R lm 119 = stp G R lm (2, 120, 0, 0, 0, 0, []) (WP cd_Mo_init G R lm) ∧ WP cd_Mo_init G R lm 120 = stp G R lm (7, 123, 0, 0, nI 400, 0, []) (WP cd_Mo_init G R lm) ∧ WP cd_Mo_init G R lm 123 = stp G R lm (71, 125, 0, 0, 0, 0, []) (WP cd_Mo_init G R lm) ∧ WP cd_Mo_init G R lm 125 = stp G R lm (61, 128, 8, 28, 0, 0, []) (WP cd_Mo_init G R lm) := ⟨WP_eq hG rfl, WP_eq hG rfl, WP_eq hG rfl, WP_eq hG rfl⟩
set_option maxRecDepth 100000 in
theorem m_nm2 (d : Nat) {h : MH} (hq : 273 < hsz h) (R : RT) (K : ∀ H9, AA h H9 273 ([] ++ [(22, 20, 96)] ++ [(24, 20, 400)] ++ [(25, 20, 400)] ++ [(27, 20, 400)] ++ [(28, 20, 400)]) → hkd H9 273 = 8 → hcc H9 = hcc h + 5 → hcu H9 = hcu h + (1696) → hsz H9 = hsz h + 5 → WP cd_Mo_init (callD d) R (hcc h + 17, hcu h + 2316) 128 [] [some (.ref 273), none, none] H9) (H0 : MH) (A0 : AA h H0 273 []) (k0 : hkd H0 273 = 8) (c0 : hcc H0 = hcc h + 0) (u0 : hcu H0 = hcu h + 0) (z0 : hsz H0 = hsz h + 0) : WP cd_Mo_init (callD d) R (hcc h + 17, hcu h + 2316) 84 [] [some (.ref 273), none, none] H0 := by
  have y1 : hcc H0 + 1 ≤ hcc h + 17 := by omega
  have y2 : hcu H0 + 96 ≤ hcu h + 2316 := by omega
  have lq : 273 < hsz H0 := by omega
  have nq : ¬ 273 = hsz H0 := by omega
  simp (disch := omega) only [US_Mo_init_84 (cm _), SA, SB, SC1, SC2, SG, SK, SV, k0, y1, y2, ltI, nI_clamp, nq, Nat.not_lt_zero, up1_n, Nat.reduceLeDiff, true_or, or_true, true_implies, not_true_eq_false, not_false_eq_true, false_implies, true_and, and_true]
  have S := AS_g H0 273 22 20 96 lq
  generalize sFR (hnew H0 20 96) 273 (up1 (hfr H0 273) 22 (some (hsz H0))) = H1 at *
  have A1 := A0.push hq S (by decide)
  have k1 : hkd H1 273 = 8 := by rw [(S.2.1 273 lq).1]; exact k0
  have c1 : hcc H1 = hcc h + 1 := by have := S.1.2.1; omega
  have u1 : hcu H1 = hcu h + (96) := by have := S.1.2.2; omega
  have z1 : hsz H1 = hsz h + 1 := by have := S.1.1; omega
  clear S y1 y2 lq nq
  have y1 : hcc H1 + 1 ≤ hcc h + 17 := by omega
  have y2 : hcu H1 + 400 ≤ hcu h + 2316 := by omega
  have lq : 273 < hsz H1 := by omega
  have nq : ¬ 273 = hsz H1 := by omega
  simp (disch := omega) only [US_Mo_init_92 (cm _), SA, SB, SC1, SC2, SG, SK, SV, k1, y1, y2, ltI, nI_clamp, nq, Nat.not_lt_zero, up1_n, Nat.reduceLeDiff, true_or, or_true, true_implies, not_true_eq_false, not_false_eq_true, false_implies, true_and, and_true]
  have S := AS_g H1 273 24 20 400 lq
  generalize sFR (hnew H1 20 400) 273 (up1 (hfr H1 273) 24 (some (hsz H1))) = H2 at *
  have A2 := A1.push hq S (by decide)
  have k2 : hkd H2 273 = 8 := by rw [(S.2.1 273 lq).1]; exact k1
  have c2 : hcc H2 = hcc h + 2 := by have := S.1.2.1; omega
  have u2 : hcu H2 = hcu h + (496) := by have := S.1.2.2; omega
  have z2 : hsz H2 = hsz h + 2 := by have := S.1.1; omega
  clear S y1 y2 lq nq
  have y1 : hcc H2 + 1 ≤ hcc h + 17 := by omega
  have y2 : hcu H2 + 400 ≤ hcu h + 2316 := by omega
  have lq : 273 < hsz H2 := by omega
  have nq : ¬ 273 = hsz H2 := by omega
  simp (disch := omega) only [US_Mo_init_101 (cm _), SA, SB, SC1, SC2, SG, SK, SV, k2, y1, y2, ltI, nI_clamp, nq, Nat.not_lt_zero, up1_n, Nat.reduceLeDiff, true_or, or_true, true_implies, not_true_eq_false, not_false_eq_true, false_implies, true_and, and_true]
  have S := AS_g H2 273 25 20 400 lq
  generalize sFR (hnew H2 20 400) 273 (up1 (hfr H2 273) 25 (some (hsz H2))) = H3 at *
  have A3 := A2.push hq S (by decide)
  have k3 : hkd H3 273 = 8 := by rw [(S.2.1 273 lq).1]; exact k2
  have c3 : hcc H3 = hcc h + 3 := by have := S.1.2.1; omega
  have u3 : hcu H3 = hcu h + (896) := by have := S.1.2.2; omega
  have z3 : hsz H3 = hsz h + 3 := by have := S.1.1; omega
  clear S y1 y2 lq nq
  have y1 : hcc H3 + 1 ≤ hcc h + 17 := by omega
  have y2 : hcu H3 + 400 ≤ hcu h + 2316 := by omega
  have lq : 273 < hsz H3 := by omega
  have nq : ¬ 273 = hsz H3 := by omega
  simp (disch := omega) only [US_Mo_init_110 (cm _), SA, SB, SC1, SC2, SG, SK, SV, k3, y1, y2, ltI, nI_clamp, nq, Nat.not_lt_zero, up1_n, Nat.reduceLeDiff, true_or, or_true, true_implies, not_true_eq_false, not_false_eq_true, false_implies, true_and, and_true]
  have S := AS_g H3 273 27 20 400 lq
  generalize sFR (hnew H3 20 400) 273 (up1 (hfr H3 273) 27 (some (hsz H3))) = H4 at *
  have A4 := A3.push hq S (by decide)
  have k4 : hkd H4 273 = 8 := by rw [(S.2.1 273 lq).1]; exact k3
  have c4 : hcc H4 = hcc h + 4 := by have := S.1.2.1; omega
  have u4 : hcu H4 = hcu h + (1296) := by have := S.1.2.2; omega
  have z4 : hsz H4 = hsz h + 4 := by have := S.1.1; omega
  clear S y1 y2 lq nq
  have y1 : hcc H4 + 1 ≤ hcc h + 17 := by omega
  have y2 : hcu H4 + 400 ≤ hcu h + 2316 := by omega
  have lq : 273 < hsz H4 := by omega
  have nq : ¬ 273 = hsz H4 := by omega
  simp (disch := omega) only [US_Mo_init_119 (cm _), SA, SB, SC1, SC2, SG, SK, SV, k4, y1, y2, ltI, nI_clamp, nq, Nat.not_lt_zero, up1_n, Nat.reduceLeDiff, true_or, or_true, true_implies, not_true_eq_false, not_false_eq_true, false_implies, true_and, and_true]
  have S := AS_g H4 273 28 20 400 lq
  generalize sFR (hnew H4 20 400) 273 (up1 (hfr H4 273) 28 (some (hsz H4))) = H5 at *
  have A5 := A4.push hq S (by decide)
  have k5 : hkd H5 273 = 8 := by rw [(S.2.1 273 lq).1]; exact k4
  have c5 : hcc H5 = hcc h + 5 := by have := S.1.2.1; omega
  have u5 : hcu H5 = hcu h + (1696) := by have := S.1.2.2; omega
  have z5 : hsz H5 = hsz h + 5 := by have := S.1.1; omega
  clear S y1 y2 lq nq
  exact K H5 A5 k5 c5 u5 z5
set_option maxRecDepth 20000 in
theorem US_Mo_init_242 {G : GT} (hG : Gmono G) (R : RT) (lm : Nat × Nat) : WP cd_Mo_init G R lm 242 = stp G R lm (2, 243, 0, 0, 0, 0, []) (WP cd_Mo_init G R lm) ∧ WP cd_Mo_init G R lm 243 = stp G R lm (7, 245, 0, 0, nI 13, 0, []) (WP cd_Mo_init G R lm) ∧ WP cd_Mo_init G R lm 245 = stp G R lm (72, 247, 0, 0, 0, 0, []) (WP cd_Mo_init G R lm) ∧ WP cd_Mo_init G R lm 247 = stp G R lm (61, 250, 8, 35, 0, 0, []) (WP cd_Mo_init G R lm) := ⟨WP_eq hG rfl, WP_eq hG rfl, WP_eq hG rfl, WP_eq hG rfl⟩
set_option maxRecDepth 20000 in
theorem US_Mo_init_250 {G : GT} (hG : Gmono G) (R : RT) (lm : Nat × Nat) : WP cd_Mo_init G R lm 250 = stp G R lm (2, 251, 0, 0, 0, 0, []) (WP cd_Mo_init G R lm) ∧ WP cd_Mo_init G R lm 251 = stp G R lm (7, 253, 0, 0, nI 13, 0, []) (WP cd_Mo_init G R lm) ∧ WP cd_Mo_init G R lm 253 = stp G R lm (72, 255, 0, 0, 0, 0, []) (WP cd_Mo_init G R lm) ∧ WP cd_Mo_init G R lm 255 = stp G R lm (61, 258, 8, 36, 0, 0, []) (WP cd_Mo_init G R lm) := ⟨WP_eq hG rfl, WP_eq hG rfl, WP_eq hG rfl, WP_eq hG rfl⟩
set_option maxRecDepth 20000 in
theorem US_Mo_init_258 {G : GT} (hG : Gmono G) (R : RT) (lm : Nat × Nat) : WP cd_Mo_init G R lm 258 = stp G R lm (2, 259, 0, 0, 0, 0, []) (WP cd_Mo_init G R lm) ∧ WP cd_Mo_init G R lm 259 = stp G R lm (7, 262, 0, 0, nI 400, 0, []) (WP cd_Mo_init G R lm) ∧ WP cd_Mo_init G R lm 262 = stp G R lm (72, 264, 0, 0, 0, 0, []) (WP cd_Mo_init G R lm) ∧ WP cd_Mo_init G R lm 264 = stp G R lm (61, 267, 8, 37, 0, 0, []) (WP cd_Mo_init G R lm) := ⟨WP_eq hG rfl, WP_eq hG rfl, WP_eq hG rfl, WP_eq hG rfl⟩
set_option maxRecDepth 20000 in
theorem US_Mo_init_267 {G : GT} (hG : Gmono G) (R : RT) (lm : Nat × Nat) : WP cd_Mo_init G R lm 267 = stp G R lm (2, 268, 0, 0, 0, 0, []) (WP cd_Mo_init G R lm) ∧ WP cd_Mo_init G R lm 268 = stp G R lm (7, 270, 0, 0, nI 7, 0, []) (WP cd_Mo_init G R lm) ∧ WP cd_Mo_init G R lm 270 = stp G R lm (71, 272, 0, 0, 0, 0, []) (WP cd_Mo_init G R lm) ∧ WP cd_Mo_init G R lm 272 = stp G R lm (61, 275, 8, 41, 0, 0, []) (WP cd_Mo_init G R lm) := ⟨WP_eq hG rfl, WP_eq hG rfl, WP_eq hG rfl, WP_eq hG rfl⟩
set_option maxRecDepth 20000 in
theorem US_Mo_init_275 {G : GT} (hG : Gmono G) (R : RT) (lm : Nat × Nat) : WP cd_Mo_init G R lm 275 = stp G R lm (2, 276, 0, 0, 0, 0, []) (WP cd_Mo_init G R lm) ∧ WP cd_Mo_init G R lm 276 = stp G R lm (7, 278, 0, 0, nI 7, 0, []) (WP cd_Mo_init G R lm) ∧ WP cd_Mo_init G R lm 278 = stp G R lm (71, 280, 0, 0, 0, 0, []) (WP cd_Mo_init G R lm) ∧ WP cd_Mo_init G R lm 280 = stp G R lm (61, 283, 8, 42, 0, 0, []) (WP cd_Mo_init G R lm) := ⟨WP_eq hG rfl, WP_eq hG rfl, WP_eq hG rfl, WP_eq hG rfl⟩
set_option maxRecDepth 20000 in
theorem US_Mo_init_283 {G : GT} (hG : Gmono G) (R : RT) (lm : Nat × Nat) : WP cd_Mo_init G R lm 283 = stp G R lm (2, 284, 0, 0, 0, 0, []) (WP cd_Mo_init G R lm) ∧ WP cd_Mo_init G R lm 284 = stp G R lm (7, 286, 0, 0, nI 21, 0, []) (WP cd_Mo_init G R lm) ∧ WP cd_Mo_init G R lm 286 = stp G R lm (72, 288, 0, 0, 0, 0, []) (WP cd_Mo_init G R lm) ∧ WP cd_Mo_init G R lm 288 = stp G R lm (61, 291, 8, 43, 0, 0, []) (WP cd_Mo_init G R lm) := ⟨WP_eq hG rfl, WP_eq hG rfl, WP_eq hG rfl, WP_eq hG rfl⟩
set_option maxRecDepth 100000 in
theorem m_nm3 (d : Nat) {h : MH} (hq : 273 < hsz h) (R : RT) (K : ∀ H9, AA h H9 273 ([] ++ [(35, 21, 13)] ++ [(36, 21, 13)] ++ [(37, 21, 400)] ++ [(41, 20, 7)] ++ [(42, 20, 7)] ++ [(43, 21, 21)]) → hkd H9 273 = 8 → hcc H9 = hcc h + 6 → hcu H9 = hcu h + (461) → hsz H9 = hsz h + 6 → WP cd_Mo_init (callD d) R (hcc h + 9, hcu h + 605) 291 [] [some (.ref 273), none, none] H9) (H0 : MH) (A0 : AA h H0 273 []) (k0 : hkd H0 273 = 8) (c0 : hcc H0 = hcc h + 0) (u0 : hcu H0 = hcu h + 0) (z0 : hsz H0 = hsz h + 0) : WP cd_Mo_init (callD d) R (hcc h + 9, hcu h + 605) 242 [] [some (.ref 273), none, none] H0 := by
  have y1 : hcc H0 + 1 ≤ hcc h + 9 := by omega
  have y2 : hcu H0 + 13 ≤ hcu h + 605 := by omega
  have lq : 273 < hsz H0 := by omega
  have nq : ¬ 273 = hsz H0 := by omega
  simp (disch := omega) only [US_Mo_init_242 (cm _), SA, SB, SC1, SC2, SG, SK, SV, k0, y1, y2, ltI, nI_clamp, nq, Nat.not_lt_zero, up1_n, Nat.reduceLeDiff, true_or, or_true, true_implies, not_true_eq_false, not_false_eq_true, false_implies, true_and, and_true]
  have S := AS_g H0 273 35 21 13 lq
  generalize sFR (hnew H0 21 13) 273 (up1 (hfr H0 273) 35 (some (hsz H0))) = H1 at *
  have A1 := A0.push hq S (by decide)
  have k1 : hkd H1 273 = 8 := by rw [(S.2.1 273 lq).1]; exact k0
  have c1 : hcc H1 = hcc h + 1 := by have := S.1.2.1; omega
  have u1 : hcu H1 = hcu h + (13) := by have := S.1.2.2; omega
  have z1 : hsz H1 = hsz h + 1 := by have := S.1.1; omega
  clear S y1 y2 lq nq
  have y1 : hcc H1 + 1 ≤ hcc h + 9 := by omega
  have y2 : hcu H1 + 13 ≤ hcu h + 605 := by omega
  have lq : 273 < hsz H1 := by omega
  have nq : ¬ 273 = hsz H1 := by omega
  simp (disch := omega) only [US_Mo_init_250 (cm _), SA, SB, SC1, SC2, SG, SK, SV, k1, y1, y2, ltI, nI_clamp, nq, Nat.not_lt_zero, up1_n, Nat.reduceLeDiff, true_or, or_true, true_implies, not_true_eq_false, not_false_eq_true, false_implies, true_and, and_true]
  have S := AS_g H1 273 36 21 13 lq
  generalize sFR (hnew H1 21 13) 273 (up1 (hfr H1 273) 36 (some (hsz H1))) = H2 at *
  have A2 := A1.push hq S (by decide)
  have k2 : hkd H2 273 = 8 := by rw [(S.2.1 273 lq).1]; exact k1
  have c2 : hcc H2 = hcc h + 2 := by have := S.1.2.1; omega
  have u2 : hcu H2 = hcu h + (26) := by have := S.1.2.2; omega
  have z2 : hsz H2 = hsz h + 2 := by have := S.1.1; omega
  clear S y1 y2 lq nq
  have y1 : hcc H2 + 1 ≤ hcc h + 9 := by omega
  have y2 : hcu H2 + 400 ≤ hcu h + 605 := by omega
  have lq : 273 < hsz H2 := by omega
  have nq : ¬ 273 = hsz H2 := by omega
  simp (disch := omega) only [US_Mo_init_258 (cm _), SA, SB, SC1, SC2, SG, SK, SV, k2, y1, y2, ltI, nI_clamp, nq, Nat.not_lt_zero, up1_n, Nat.reduceLeDiff, true_or, or_true, true_implies, not_true_eq_false, not_false_eq_true, false_implies, true_and, and_true]
  have S := AS_g H2 273 37 21 400 lq
  generalize sFR (hnew H2 21 400) 273 (up1 (hfr H2 273) 37 (some (hsz H2))) = H3 at *
  have A3 := A2.push hq S (by decide)
  have k3 : hkd H3 273 = 8 := by rw [(S.2.1 273 lq).1]; exact k2
  have c3 : hcc H3 = hcc h + 3 := by have := S.1.2.1; omega
  have u3 : hcu H3 = hcu h + (426) := by have := S.1.2.2; omega
  have z3 : hsz H3 = hsz h + 3 := by have := S.1.1; omega
  clear S y1 y2 lq nq
  have y1 : hcc H3 + 1 ≤ hcc h + 9 := by omega
  have y2 : hcu H3 + 7 ≤ hcu h + 605 := by omega
  have lq : 273 < hsz H3 := by omega
  have nq : ¬ 273 = hsz H3 := by omega
  simp (disch := omega) only [US_Mo_init_267 (cm _), SA, SB, SC1, SC2, SG, SK, SV, k3, y1, y2, ltI, nI_clamp, nq, Nat.not_lt_zero, up1_n, Nat.reduceLeDiff, true_or, or_true, true_implies, not_true_eq_false, not_false_eq_true, false_implies, true_and, and_true]
  have S := AS_g H3 273 41 20 7 lq
  generalize sFR (hnew H3 20 7) 273 (up1 (hfr H3 273) 41 (some (hsz H3))) = H4 at *
  have A4 := A3.push hq S (by decide)
  have k4 : hkd H4 273 = 8 := by rw [(S.2.1 273 lq).1]; exact k3
  have c4 : hcc H4 = hcc h + 4 := by have := S.1.2.1; omega
  have u4 : hcu H4 = hcu h + (433) := by have := S.1.2.2; omega
  have z4 : hsz H4 = hsz h + 4 := by have := S.1.1; omega
  clear S y1 y2 lq nq
  have y1 : hcc H4 + 1 ≤ hcc h + 9 := by omega
  have y2 : hcu H4 + 7 ≤ hcu h + 605 := by omega
  have lq : 273 < hsz H4 := by omega
  have nq : ¬ 273 = hsz H4 := by omega
  simp (disch := omega) only [US_Mo_init_275 (cm _), SA, SB, SC1, SC2, SG, SK, SV, k4, y1, y2, ltI, nI_clamp, nq, Nat.not_lt_zero, up1_n, Nat.reduceLeDiff, true_or, or_true, true_implies, not_true_eq_false, not_false_eq_true, false_implies, true_and, and_true]
  have S := AS_g H4 273 42 20 7 lq
  generalize sFR (hnew H4 20 7) 273 (up1 (hfr H4 273) 42 (some (hsz H4))) = H5 at *
  have A5 := A4.push hq S (by decide)
  have k5 : hkd H5 273 = 8 := by rw [(S.2.1 273 lq).1]; exact k4
  have c5 : hcc H5 = hcc h + 5 := by have := S.1.2.1; omega
  have u5 : hcu H5 = hcu h + (440) := by have := S.1.2.2; omega
  have z5 : hsz H5 = hsz h + 5 := by have := S.1.1; omega
  clear S y1 y2 lq nq
  have y1 : hcc H5 + 1 ≤ hcc h + 9 := by omega
  have y2 : hcu H5 + 21 ≤ hcu h + 605 := by omega
  have lq : 273 < hsz H5 := by omega
  have nq : ¬ 273 = hsz H5 := by omega
  simp (disch := omega) only [US_Mo_init_283 (cm _), SA, SB, SC1, SC2, SG, SK, SV, k5, y1, y2, ltI, nI_clamp, nq, Nat.not_lt_zero, up1_n, Nat.reduceLeDiff, true_or, or_true, true_implies, not_true_eq_false, not_false_eq_true, false_implies, true_and, and_true]
  have S := AS_g H5 273 43 21 21 lq
  generalize sFR (hnew H5 21 21) 273 (up1 (hfr H5 273) 43 (some (hsz H5))) = H6 at *
  have A6 := A5.push hq S (by decide)
  have k6 : hkd H6 273 = 8 := by rw [(S.2.1 273 lq).1]; exact k5
  have c6 : hcc H6 = hcc h + 6 := by have := S.1.2.1; omega
  have u6 : hcu H6 = hcu h + (461) := by have := S.1.2.2; omega
  have z6 : hsz H6 = hsz h + 6 := by have := S.1.1; omega
  clear S y1 y2 lq nq
  exact K H6 A6 k6 c6 u6 z6
set_option maxRecDepth 20000 in
theorem US_Mo_init_316 {G : GT} (hG : Gmono G) (R : RT) (lm : Nat × Nat) : WP cd_Mo_init G R lm 316 = stp G R lm (2, 317, 0, 0, 0, 0, []) (WP cd_Mo_init G R lm) ∧ WP cd_Mo_init G R lm 317 = stp G R lm (7, 319, 0, 0, nI 120, 0, []) (WP cd_Mo_init G R lm) ∧ WP cd_Mo_init G R lm 319 = stp G R lm (71, 321, 0, 0, 0, 0, []) (WP cd_Mo_init G R lm) ∧ WP cd_Mo_init G R lm 321 = stp G R lm (61, 324, 8, 45, 0, 0, []) (WP cd_Mo_init G R lm) := ⟨WP_eq hG rfl, WP_eq hG rfl, WP_eq hG rfl, WP_eq hG rfl⟩
set_option maxRecDepth 100000 in
theorem m_nm4 (d : Nat) {h : MH} (hq : 273 < hsz h) (R : RT) (K : ∀ H9, AA h H9 273 ([] ++ [(45, 20, 120)]) → hkd H9 273 = 8 → hcc H9 = hcc h + 1 → hcu H9 = hcu h + (120) → hsz H9 = hsz h + 1 → WP cd_Mo_init (callD d) R (hcc h + 2, hcu h + 141) 324 [] [some (.ref 273), none, none] H9) (H0 : MH) (A0 : AA h H0 273 []) (k0 : hkd H0 273 = 8) (c0 : hcc H0 = hcc h + 0) (u0 : hcu H0 = hcu h + 0) (z0 : hsz H0 = hsz h + 0) : WP cd_Mo_init (callD d) R (hcc h + 2, hcu h + 141) 316 [] [some (.ref 273), none, none] H0 := by
  have y1 : hcc H0 + 1 ≤ hcc h + 2 := by omega
  have y2 : hcu H0 + 120 ≤ hcu h + 141 := by omega
  have lq : 273 < hsz H0 := by omega
  have nq : ¬ 273 = hsz H0 := by omega
  simp (disch := omega) only [US_Mo_init_316 (cm _), SA, SB, SC1, SC2, SG, SK, SV, k0, y1, y2, ltI, nI_clamp, nq, Nat.not_lt_zero, up1_n, Nat.reduceLeDiff, true_or, or_true, true_implies, not_true_eq_false, not_false_eq_true, false_implies, true_and, and_true]
  have S := AS_g H0 273 45 20 120 lq
  generalize sFR (hnew H0 20 120) 273 (up1 (hfr H0 273) 45 (some (hsz H0))) = H1 at *
  have A1 := A0.push hq S (by decide)
  have k1 : hkd H1 273 = 8 := by rw [(S.2.1 273 lq).1]; exact k0
  have c1 : hcc H1 = hcc h + 1 := by have := S.1.2.1; omega
  have u1 : hcu H1 = hcu h + (120) := by have := S.1.2.2; omega
  have z1 : hsz H1 = hsz h + 1 := by have := S.1.1; omega
  clear S y1 y2 lq nq
  exact K H1 A1 k1 c1 u1 z1
set_option maxRecDepth 20000 in
theorem US_Mo_init_329 {G : GT} (hG : Gmono G) (R : RT) (lm : Nat × Nat) : WP cd_Mo_init G R lm 329 = stp G R lm (2, 330, 0, 0, 0, 0, []) (WP cd_Mo_init G R lm) ∧ WP cd_Mo_init G R lm 330 = stp G R lm (7, 332, 0, 0, nI 21, 0, []) (WP cd_Mo_init G R lm) ∧ WP cd_Mo_init G R lm 332 = stp G R lm (71, 334, 0, 0, 0, 0, []) (WP cd_Mo_init G R lm) ∧ WP cd_Mo_init G R lm 334 = stp G R lm (61, 337, 8, 51, 0, 0, []) (WP cd_Mo_init G R lm) := ⟨WP_eq hG rfl, WP_eq hG rfl, WP_eq hG rfl, WP_eq hG rfl⟩
set_option maxRecDepth 100000 in
theorem m_nm5 (d : Nat) {h : MH} (hq : 273 < hsz h) (R : RT) (K : ∀ H9, AA h H9 273 ([] ++ [(51, 20, 21)]) → hkd H9 273 = 8 → hcc H9 = hcc h + 1 → hcu H9 = hcu h + (21) → hsz H9 = hsz h + 1 → WP cd_Mo_init (callD d) R (hcc h + 1, hcu h + 21) 337 [] [some (.ref 273), none, none] H9) (H0 : MH) (A0 : AA h H0 273 []) (k0 : hkd H0 273 = 8) (c0 : hcc H0 = hcc h + 0) (u0 : hcu H0 = hcu h + 0) (z0 : hsz H0 = hsz h + 0) : WP cd_Mo_init (callD d) R (hcc h + 1, hcu h + 21) 329 [] [some (.ref 273), none, none] H0 := by
  have y1 : hcc H0 + 1 ≤ hcc h + 1 := by omega
  have y2 : hcu H0 + 21 ≤ hcu h + 21 := by omega
  have lq : 273 < hsz H0 := by omega
  have nq : ¬ 273 = hsz H0 := by omega
  simp (disch := omega) only [US_Mo_init_329 (cm _), SA, SB, SC1, SC2, SG, SK, SV, k0, y1, y2, ltI, nI_clamp, nq, Nat.not_lt_zero, up1_n, Nat.reduceLeDiff, true_or, or_true, true_implies, not_true_eq_false, not_false_eq_true, false_implies, true_and, and_true]
  have S := AS_g H0 273 51 20 21 lq
  generalize sFR (hnew H0 20 21) 273 (up1 (hfr H0 273) 51 (some (hsz H0))) = H1 at *
  have A1 := A0.push hq S (by decide)
  have k1 : hkd H1 273 = 8 := by rw [(S.2.1 273 lq).1]; exact k0
  have c1 : hcc H1 = hcc h + 1 := by have := S.1.2.1; omega
  have u1 : hcu H1 = hcu h + (21) := by have := S.1.2.2; omega
  have z1 : hsz H1 = hsz h + 1 := by have := S.1.1; omega
  clear S y1 y2 lq nq
  exact K H1 A1 k1 c1 u1 z1
