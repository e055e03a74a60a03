/-! ===== the reference is made: arrays ===== -/
set_option maxRecDepth 20000 in
theorem US_Mo_init_0 {G : GT} (hG : Gmono G) (R : RT) (lm : Nat × Nat) : WP cd_Mo_init G R lm 0 = stp G R lm (2, 1, 0, 0, 0, 0, []) (WP cd_Mo_init G R lm) ∧ WP cd_Mo_init G R lm 1 = stp G R lm (77, 4, 0, 0, 0, 0, []) (WP cd_Mo_init G R lm) ∧ WP cd_Mo_init G R lm 4 = stp G R lm (2, 5, 0, 0, 0, 0, []) (WP cd_Mo_init G R lm) ∧ WP cd_Mo_init G R lm 5 = stp G R lm (7, 7, 0, 0, nI 7, 0, []) (WP cd_Mo_init G R lm) ∧ WP cd_Mo_init G R lm 7 = stp G R lm (71, 9, 0, 0, 0, 0, []) (WP cd_Mo_init G R lm) ∧ WP cd_Mo_init G R lm 9 = stp G R lm (61, 12, 8, 2, 0, 0, []) (WP cd_Mo_init G R lm) := ⟨WP_eq hG rfl, WP_eq hG rfl, WP_eq hG rfl, WP_eq hG rfl, WP_eq hG rfl, WP_eq hG rfl⟩
set_option maxRecDepth 20000 in
theorem US_Mo_init_12 {G : GT} (hG : Gmono G) (R : RT) (lm : Nat × Nat) : WP cd_Mo_init G R lm 12 = stp G R lm (2, 13, 0, 0, 0, 0, []) (WP cd_Mo_init G R lm) ∧ WP cd_Mo_init G R lm 13 = stp G R lm (7, 16, 0, 0, nI 7422, 0, []) (WP cd_Mo_init G R lm) ∧ WP cd_Mo_init G R lm 16 = stp G R lm (71, 18, 0, 0, 0, 0, []) (WP cd_Mo_init G R lm) ∧ WP cd_Mo_init G R lm 18 = stp G R lm (61, 21, 8, 3, 0, 0, []) (WP cd_Mo_init G R lm) := ⟨WP_eq hG rfl, WP_eq hG rfl, WP_eq hG rfl, WP_eq hG rfl⟩
set_option maxRecDepth 20000 in
theorem US_Mo_init_21 {G : GT} (hG : Gmono G) (R : RT) (lm : Nat × Nat) : WP cd_Mo_init G R lm 21 = stp G R lm (2, 22, 0, 0, 0, 0, []) (WP cd_Mo_init G R lm) ∧ WP cd_Mo_init G R lm 22 = stp G R lm (7, 25, 0, 0, nI 14844, 0, []) (WP cd_Mo_init G R lm) ∧ WP cd_Mo_init G R lm 25 = stp G R lm (71, 27, 0, 0, 0, 0, []) (WP cd_Mo_init G R lm) ∧ WP cd_Mo_init G R lm 27 = stp G R lm (61, 30, 8, 4, 0, 0, []) (WP cd_Mo_init G R lm) := ⟨WP_eq hG rfl, WP_eq hG rfl, WP_eq hG rfl, WP_eq hG rfl⟩
set_option maxRecDepth 20000 in
theorem US_Mo_init_30 {G : GT} (hG : Gmono G) (R : RT) (lm : Nat × Nat) : WP cd_Mo_init G R lm 30 = stp G R lm (2, 31, 0, 0, 0, 0, []) (WP cd_Mo_init G R lm) ∧ WP cd_Mo_init G R lm 31 = stp G R lm (7, 32, 0, 0, nI 2, 0, []) (WP cd_Mo_init G R lm) ∧ WP cd_Mo_init G R lm 32 = stp G R lm (73, 34, 0, 0, 0, 0, []) (WP cd_Mo_init G R lm) ∧ WP cd_Mo_init G R lm 34 = stp G R lm (61, 37, 8, 5, 0, 0, []) (WP cd_Mo_init G R lm) := ⟨WP_eq hG rfl, WP_eq hG rfl, WP_eq hG rfl, WP_eq hG rfl⟩
set_option maxRecDepth 20000 in
theorem US_Mo_init_37 {G : GT} (hG : Gmono G) (R : RT) (lm : Nat × Nat) : WP cd_Mo_init G R lm 37 = stp G R lm (2, 38, 0, 0, 0, 0, []) (WP cd_Mo_init G R lm) ∧ WP cd_Mo_init G R lm 38 = stp G R lm (7, 40, 0, 0, nI 33231, 0, []) (WP cd_Mo_init G R lm) ∧ WP cd_Mo_init G R lm 40 = stp G R lm (71, 42, 0, 0, 0, 0, []) (WP cd_Mo_init G R lm) ∧ WP cd_Mo_init G R lm 42 = stp G R lm (61, 45, 8, 6, 0, 0, []) (WP cd_Mo_init G R lm) := ⟨WP_eq hG rfl, WP_eq hG rfl, WP_eq hG rfl, WP_eq hG rfl⟩
set_option maxRecDepth 20000 in
theorem US_Mo_init_45 {G : GT} (hG : Gmono G) (R : RT) (lm : Nat × Nat) : WP cd_Mo_init G R lm 45 = stp G R lm (2, 46, 0, 0, 0, 0, []) (WP cd_Mo_init G R lm) ∧ WP cd_Mo_init G R lm 46 = stp G R lm (7, 48, 0, 0, nI 16, 0, []) (WP cd_Mo_init G R lm) ∧ WP cd_Mo_init G R lm 48 = stp G R lm (71, 50, 0, 0, 0, 0, []) (WP cd_Mo_init G R lm) ∧ WP cd_Mo_init G R lm 50 = stp G R lm (61, 53, 8, 7, 0, 0, []) (WP cd_Mo_init G R lm) := ⟨WP_eq hG rfl, WP_eq hG rfl, WP_eq hG rfl, WP_eq hG rfl⟩
set_option maxRecDepth 20000 in
theorem US_Mo_init_53 {G : GT} (hG : Gmono G) (R : RT) (lm : Nat × Nat) : WP cd_Mo_init G R lm 53 = stp G R lm (2, 54, 0, 0, 0, 0, []) (WP cd_Mo_init G R lm) ∧ WP cd_Mo_init G R lm 54 = stp G R lm (7, 57, 0, 0, nI 27984, 0, []) (WP cd_Mo_init G R lm) ∧ WP cd_Mo_init G R lm 57 = stp G R lm (71, 59, 0, 0, 0, 0, []) (WP cd_Mo_init G R lm) ∧ WP cd_Mo_init G R lm 59 = stp G R lm (61, 62, 8, 9, 0, 0, []) (WP cd_Mo_init G R lm) := ⟨WP_eq hG rfl, WP_eq hG rfl, WP_eq hG rfl, WP_eq hG rfl⟩
set_option maxRecDepth 20000 in
theorem US_Mo_init_62 {G : GT} (hG : Gmono G) (R : RT) (lm : Nat × Nat) : WP cd_Mo_init G R lm 62 = stp G R lm (2, 63, 0, 0, 0, 0, []) (WP cd_Mo_init G R lm) ∧ WP cd_Mo_init G R lm 63 = stp G R lm (7, 65, 0, 0, nI 16, 0, []) (WP cd_Mo_init G R lm) ∧ WP cd_Mo_init G R lm 65 = stp G R lm (71, 67, 0, 0, 0, 0, []) (WP cd_Mo_init G R lm) ∧ WP cd_Mo_init G R lm 67 = stp G R lm (61, 70, 8, 10, 0, 0, []) (WP cd_Mo_init G R lm) := ⟨WP_eq hG rfl, WP_eq hG rfl, WP_eq hG rfl, WP_eq hG rfl⟩
set_option maxRecDepth 20000 in
theorem US_Mo_init_70 {G : GT} (hG : Gmono G) (R : RT) (lm : Nat × Nat) : WP cd_Mo_init G R lm 70 = stp G R lm (2, 71, 0, 0, 0, 0, []) (WP cd_Mo_init G R lm) ∧ WP cd_Mo_init G R lm 71 = stp G R lm (7, 74, 0, 0, nI 400, 0, []) (WP cd_Mo_init G R lm) ∧ WP cd_Mo_init G R lm 74 = stp G R lm (71, 76, 0, 0, 0, 0, []) (WP cd_Mo_init G R lm) ∧ WP cd_Mo_init G R lm 76 = stp G R lm (61, 79, 8, 12, 0, 0, []) (WP cd_Mo_init G R lm) := ⟨WP_eq hG rfl, WP_eq hG rfl, WP_eq hG rfl, WP_eq hG rfl⟩
set_option maxRecDepth 100000 in
theorem m_nm1 (d : Nat) {h : MH} (hq : 273 < hsz h) (R : RT) (K : ∀ H9, AA h H9 273 ([] ++ [(2, 20, 7)] ++ [(3, 20, 7422)] ++ [(4, 20, 14844)] ++ [(5, 22, 2)] ++ [(6, 20, 33231)] ++ [(7, 20, 16)] ++ [(9, 20, 27984)] ++ [(10, 20, 16)] ++ [(12, 20, 400)]) → hkd H9 273 = 8 → hcc H9 = hcc h + 9 → hcu H9 = hcu h + (83922) → hsz H9 = hsz h + 9 → WP cd_Mo_init (callD d) R (hcc h + 26, hcu h + 86238) 79 [] [some (.ref 273), none, none] H9) (H0 : MH) (A0 : AA h H0 273 []) (k0 : hkd H0 273 = 8) (c0 : hcc H0 = hcc h + 0) (u0 : hcu H0 = hcu h + 0) (z0 : hsz H0 = hsz h + 0) : WP cd_Mo_init (callD d) R (hcc h + 26, hcu h + 86238) 0 [] [some (.ref 273), none, none] H0 := by
  have y1 : hcc H0 + 1 ≤ hcc h + 26 := by omega
  have y2 : hcu H0 + 7 ≤ hcu h + 86238 := by omega
  have lq : 273 < hsz H0 := by omega
  have nq : ¬ 273 = hsz H0 := by omega
  simp (disch := omega) only [US_Mo_init_0 (cm _), SA, SB, SC1, SC2, SG, SK, SV, k0, y1, y2, ltI, nI_clamp, nq, Nat.not_lt_zero, up1_n, Nat.reduceLeDiff, true_or, or_true, true_implies, not_true_eq_false, not_false_eq_true, false_implies, true_and, and_true]
  have S := AS_g H0 273 2 20 7 lq
  generalize sFR (hnew H0 20 7) 273 (up1 (hfr H0 273) 2 (some (hsz H0))) = H1 at *
  have A1 := A0.push hq S (by decide)
  have k1 : hkd H1 273 = 8 := by rw [(S.2.1 273 lq).1]; exact k0
  have c1 : hcc H1 = hcc h + 1 := by have := S.1.2.1; omega
  have u1 : hcu H1 = hcu h + (7) := by have := S.1.2.2; omega
  have z1 : hsz H1 = hsz h + 1 := by have := S.1.1; omega
  clear S y1 y2 lq nq
  have y1 : hcc H1 + 1 ≤ hcc h + 26 := by omega
  have y2 : hcu H1 + 7422 ≤ hcu h + 86238 := by omega
  have lq : 273 < hsz H1 := by omega
  have nq : ¬ 273 = hsz H1 := by omega
  simp (disch := omega) only [US_Mo_init_12 (cm _), SA, SB, SC1, SC2, SG, SK, SV, k1, y1, y2, ltI, nI_clamp, nq, Nat.not_lt_zero, up1_n, Nat.reduceLeDiff, true_or, or_true, true_implies, not_true_eq_false, not_false_eq_true, false_implies, true_and, and_true]
  have S := AS_g H1 273 3 20 7422 lq
  generalize sFR (hnew H1 20 7422) 273 (up1 (hfr H1 273) 3 (some (hsz H1))) = H2 at *
  have A2 := A1.push hq S (by decide)
  have k2 : hkd H2 273 = 8 := by rw [(S.2.1 273 lq).1]; exact k1
  have c2 : hcc H2 = hcc h + 2 := by have := S.1.2.1; omega
  have u2 : hcu H2 = hcu h + (7429) := by have := S.1.2.2; omega
  have z2 : hsz H2 = hsz h + 2 := by have := S.1.1; omega
  clear S y1 y2 lq nq
  have y1 : hcc H2 + 1 ≤ hcc h + 26 := by omega
  have y2 : hcu H2 + 14844 ≤ hcu h + 86238 := by omega
  have lq : 273 < hsz H2 := by omega
  have nq : ¬ 273 = hsz H2 := by omega
  simp (disch := omega) only [US_Mo_init_21 (cm _), SA, SB, SC1, SC2, SG, SK, SV, k2, y1, y2, ltI, nI_clamp, nq, Nat.not_lt_zero, up1_n, Nat.reduceLeDiff, true_or, or_true, true_implies, not_true_eq_false, not_false_eq_true, false_implies, true_and, and_true]
  have S := AS_g H2 273 4 20 14844 lq
  generalize sFR (hnew H2 20 14844) 273 (up1 (hfr H2 273) 4 (some (hsz H2))) = H3 at *
  have A3 := A2.push hq S (by decide)
  have k3 : hkd H3 273 = 8 := by rw [(S.2.1 273 lq).1]; exact k2
  have c3 : hcc H3 = hcc h + 3 := by have := S.1.2.1; omega
  have u3 : hcu H3 = hcu h + (22273) := by have := S.1.2.2; omega
  have z3 : hsz H3 = hsz h + 3 := by have := S.1.1; omega
  clear S y1 y2 lq nq
  have y1 : hcc H3 + 1 ≤ hcc h + 26 := by omega
  have y2 : hcu H3 + 2 ≤ hcu h + 86238 := by omega
  have lq : 273 < hsz H3 := by omega
  have nq : ¬ 273 = hsz H3 := by omega
  simp (disch := omega) only [US_Mo_init_30 (cm _), SA, SB, SC1, SC2, SG, SK, SV, k3, y1, y2, ltI, nI_clamp, nq, Nat.not_lt_zero, up1_n, Nat.reduceLeDiff, true_or, or_true, true_implies, not_true_eq_false, not_false_eq_true, false_implies, true_and, and_true]
  have S := AS_g H3 273 5 22 2 lq
  generalize sFR (hnew H3 22 2) 273 (up1 (hfr H3 273) 5 (some (hsz H3))) = H4 at *
  have A4 := A3.push hq S (by decide)
  have k4 : hkd H4 273 = 8 := by rw [(S.2.1 273 lq).1]; exact k3
  have c4 : hcc H4 = hcc h + 4 := by have := S.1.2.1; omega
  have u4 : hcu H4 = hcu h + (22275) := by have := S.1.2.2; omega
  have z4 : hsz H4 = hsz h + 4 := by have := S.1.1; omega
  clear S y1 y2 lq nq
  have y1 : hcc H4 + 1 ≤ hcc h + 26 := by omega
  have y2 : hcu H4 + 33231 ≤ hcu h + 86238 := by omega
  have lq : 273 < hsz H4 := by omega
  have nq : ¬ 273 = hsz H4 := by omega
  simp (disch := omega) only [US_Mo_init_37 (cm _), SA, SB, SC1, SC2, SG, SK, SV, k4, y1, y2, ltI, nI_clamp, nq, Nat.not_lt_zero, up1_n, Nat.reduceLeDiff, true_or, or_true, true_implies, not_true_eq_false, not_false_eq_true, false_implies, true_and, and_true]
  have S := AS_g H4 273 6 20 33231 lq
  generalize sFR (hnew H4 20 33231) 273 (up1 (hfr H4 273) 6 (some (hsz H4))) = H5 at *
  have A5 := A4.push hq S (by decide)
  have k5 : hkd H5 273 = 8 := by rw [(S.2.1 273 lq).1]; exact k4
  have c5 : hcc H5 = hcc h + 5 := by have := S.1.2.1; omega
  have u5 : hcu H5 = hcu h + (55506) := by have := S.1.2.2; omega
  have z5 : hsz H5 = hsz h + 5 := by have := S.1.1; omega
  clear S y1 y2 lq nq
  have y1 : hcc H5 + 1 ≤ hcc h + 26 := by omega
  have y2 : hcu H5 + 16 ≤ hcu h + 86238 := by omega
  have lq : 273 < hsz H5 := by omega
  have nq : ¬ 273 = hsz H5 := by omega
  simp (disch := omega) only [US_Mo_init_45 (cm _), SA, SB, SC1, SC2, SG, SK, SV, k5, y1, y2, ltI, nI_clamp, nq, Nat.not_lt_zero, up1_n, Nat.reduceLeDiff, true_or, or_true, true_implies, not_true_eq_false, not_false_eq_true, false_implies, true_and, and_true]
  have S := AS_g H5 273 7 20 16 lq
  generalize sFR (hnew H5 20 16) 273 (up1 (hfr H5 273) 7 (some (hsz H5))) = H6 at *
  have A6 := A5.push hq S (by decide)
  have k6 : hkd H6 273 = 8 := by rw [(S.2.1 273 lq).1]; exact k5
  have c6 : hcc H6 = hcc h + 6 := by have := S.1.2.1; omega
  have u6 : hcu H6 = hcu h + (55522) := by have := S.1.2.2; omega
  have z6 : hsz H6 = hsz h + 6 := by have := S.1.1; omega
  clear S y1 y2 lq nq
  have y1 : hcc H6 + 1 ≤ hcc h + 26 := by omega
  have y2 : hcu H6 + 27984 ≤ hcu h + 86238 := by omega
  have lq : 273 < hsz H6 := by omega
  have nq : ¬ 273 = hsz H6 := by omega
  simp (disch := omega) only [US_Mo_init_53 (cm _), SA, SB, SC1, SC2, SG, SK, SV, k6, y1, y2, ltI, nI_clamp, nq, Nat.not_lt_zero, up1_n, Nat.reduceLeDiff, true_or, or_true, true_implies, not_true_eq_false, not_false_eq_true, false_implies, true_and, and_true]
  have S := AS_g H6 273 9 20 27984 lq
  generalize sFR (hnew H6 20 27984) 273 (up1 (hfr H6 273) 9 (some (hsz H6))) = H7 at *
  have A7 := A6.push hq S (by decide)
  have k7 : hkd H7 273 = 8 := by rw [(S.2.1 273 lq).1]; exact k6
  have c7 : hcc H7 = hcc h + 7 := by have := S.1.2.1; omega
  have u7 : hcu H7 = hcu h + (83506) := by have := S.1.2.2; omega
  have z7 : hsz H7 = hsz h + 7 := by have := S.1.1; omega
  clear S y1 y2 lq nq
  have y1 : hcc H7 + 1 ≤ hcc h + 26 := by omega
  have y2 : hcu H7 + 16 ≤ hcu h + 86238 := by omega
  have lq : 273 < hsz H7 := by omega
  have nq : ¬ 273 = hsz H7 := by omega
  simp (disch := omega) only [US_Mo_init_62 (cm _), SA, SB, SC1, SC2, SG, SK, SV, k7, y1, y2, ltI, nI_clamp, nq, Nat.not_lt_zero, up1_n, Nat.reduceLeDiff, true_or, or_true, true_implies, not_true_eq_false, not_false_eq_true, false_implies, true_and, and_true]
  have S := AS_g H7 273 10 20 16 lq
  generalize sFR (hnew H7 20 16) 273 (up1 (hfr H7 273) 10 (some (hsz H7))) = H8 at *
  have A8 := A7.push hq S (by decide)
  have k8 : hkd H8 273 = 8 := by rw [(S.2.1 273 lq).1]; exact k7
  have c8 : hcc H8 = hcc h + 8 := by have := S.1.2.1; omega
  have u8 : hcu H8 = hcu h + (83522) := by have := S.1.2.2; omega
  have z8 : hsz H8 = hsz h + 8 := by have := S.1.1; omega
  clear S y1 y2 lq nq
  have y1 : hcc H8 + 1 ≤ hcc h + 26 := by omega
  have y2 : hcu H8 + 400 ≤ hcu h + 86238 := by omega
  have lq : 273 < hsz H8 := by omega
  have nq : ¬ 273 = hsz H8 := by omega
  simp (disch := omega) only [US_Mo_init_70 (cm _), SA, SB, SC1, SC2, SG, SK, SV, k8, y1, y2, ltI, nI_clamp, nq, Nat.not_lt_zero, up1_n, Nat.reduceLeDiff, true_or, or_true, true_implies, not_true_eq_false, not_false_eq_true, false_implies, true_and, and_true]
  have S := AS_g H8 273 12 20 400 lq
  generalize sFR (hnew H8 20 400) 273 (up1 (hfr H8 273) 12 (some (hsz H8))) = H9 at *
  have A9 := A8.push hq S (by decide)
  have k9 : hkd H9 273 = 8 := by rw [(S.2.1 273 lq).1]; exact k8
  have c9 : hcc H9 = hcc h + 9 := by have := S.1.2.1; omega
  have u9 : hcu H9 = hcu h + (83922) := by have := S.1.2.2; omega
  have z9 : hsz H9 = hsz h + 9 := by have := S.1.1; omega
  clear S y1 y2 lq nq
  exact K H9 A9 k9 c9 u9 z9
