/-! ===== a net is made ===== -/
set_option maxRecDepth 20000 in
theorem US_Ne_init_0 {G : GT} (hG : Gmono G) (R : RT) (lm : Nat × Nat) : WP cd_Ne_init G R lm 0 = stp G R lm (2, 1, 0, 0, 0, 0, []) (WP cd_Ne_init G R lm) ∧ WP cd_Ne_init G R lm 1 = stp G R lm (77, 4, 0, 0, 0, 0, []) (WP cd_Ne_init G R lm) ∧ WP cd_Ne_init G R lm 4 = stp G R lm (2, 5, 0, 0, 0, 0, []) (WP cd_Ne_init G R lm) ∧ WP cd_Ne_init G R lm 5 = stp G R lm (7, 7, 0, 0, nI 49, 0, []) (WP cd_Ne_init G R lm) ∧ WP cd_Ne_init G R lm 7 = stp G R lm (71, 9, 0, 0, 0, 0, []) (WP cd_Ne_init G R lm) ∧ WP cd_Ne_init G R lm 9 = stp G R lm (61, 12, 2, 0, 0, 0, []) (WP cd_Ne_init G R lm) := ⟨WP_eq hG rfl, WP_eq hG rfl, WP_eq hG rfl, WP_eq hG rfl, WP_eq hG rfl, WP_eq hG rfl⟩
set_option maxRecDepth 20000 in
theorem US_Ne_init_12 {G : GT} (hG : Gmono G) (R : RT) (lm : Nat × Nat) : WP cd_Ne_init G R lm 12 = stp G R lm (2, 13, 0, 0, 0, 0, []) (WP cd_Ne_init G R lm) ∧ WP cd_Ne_init G R lm 13 = stp G R lm (7, 15, 0, 0, nI 49, 0, []) (WP cd_Ne_init G R lm) ∧ WP cd_Ne_init G R lm 15 = stp G R lm (71, 17, 0, 0, 0, 0, []) (WP cd_Ne_init G R lm) ∧ WP cd_Ne_init G R lm 17 = stp G R lm (61, 20, 2, 1, 0, 0, []) (WP cd_Ne_init G R lm) := ⟨WP_eq hG rfl, WP_eq hG rfl, WP_eq hG rfl, WP_eq hG rfl⟩
set_option maxRecDepth 20000 in
theorem US_Ne_init_20 {G : GT} (hG : Gmono G) (R : RT) (lm : Nat × Nat) : WP cd_Ne_init G R lm 20 = stp G R lm (2, 21, 0, 0, 0, 0, []) (WP cd_Ne_init G R lm) ∧ WP cd_Ne_init G R lm 21 = stp G R lm (7, 23, 0, 0, nI 7, 0, []) (WP cd_Ne_init G R lm) ∧ WP cd_Ne_init G R lm 23 = stp G R lm (71, 25, 0, 0, 0, 0, []) (WP cd_Ne_init G R lm) ∧ WP cd_Ne_init G R lm 25 = stp G R lm (61, 28, 2, 2, 0, 0, []) (WP cd_Ne_init G R lm) := ⟨WP_eq hG rfl, WP_eq hG rfl, WP_eq hG rfl, WP_eq hG rfl⟩
set_option maxRecDepth 20000 in
theorem US_Ne_init_28 {G : GT} (hG : Gmono G) (R : RT) (lm : Nat × Nat) : WP cd_Ne_init G R lm 28 = stp G R lm (2, 29, 0, 0, 0, 0, []) (WP cd_Ne_init G R lm) ∧ WP cd_Ne_init G R lm 29 = stp G R lm (7, 31, 0, 0, nI 7, 0, []) (WP cd_Ne_init G R lm) ∧ WP cd_Ne_init G R lm 31 = stp G R lm (71, 33, 0, 0, 0, 0, []) (WP cd_Ne_init G R lm) ∧ WP cd_Ne_init G R lm 33 = stp G R lm (61, 36, 2, 3, 0, 0, []) (WP cd_Ne_init G R lm) := ⟨WP_eq hG rfl, WP_eq hG rfl, WP_eq hG rfl, WP_eq hG rfl⟩
set_option maxRecDepth 20000 in
theorem US_Ne_init_36 {G : GT} (hG : Gmono G) (R : RT) (lm : Nat × Nat) : WP cd_Ne_init G R lm 36 = stp G R lm (2, 37, 0, 0, 0, 0, []) (WP cd_Ne_init G R lm) ∧ WP cd_Ne_init G R lm 37 = stp G R lm (7, 39, 0, 0, nI 7, 0, []) (WP cd_Ne_init G R lm) ∧ WP cd_Ne_init G R lm 39 = stp G R lm (71, 41, 0, 0, 0, 0, []) (WP cd_Ne_init G R lm) ∧ WP cd_Ne_init G R lm 41 = stp G R lm (61, 44, 2, 4, 0, 0, []) (WP cd_Ne_init G R lm) := ⟨WP_eq hG rfl, WP_eq hG rfl, WP_eq hG rfl, WP_eq hG rfl⟩
set_option maxRecDepth 20000 in
theorem US_Ne_init_44 {G : GT} (hG : Gmono G) (R : RT) (lm : Nat × Nat) : WP cd_Ne_init G R lm 44 = stp G R lm (2, 45, 0, 0, 0, 0, []) (WP cd_Ne_init G R lm) ∧ WP cd_Ne_init G R lm 45 = stp G R lm (7, 47, 0, 0, nI 7, 0, []) (WP cd_Ne_init G R lm) ∧ WP cd_Ne_init G R lm 47 = stp G R lm (71, 49, 0, 0, 0, 0, []) (WP cd_Ne_init G R lm) ∧ WP cd_Ne_init G R lm 49 = stp G R lm (61, 52, 2, 5, 0, 0, []) (WP cd_Ne_init G R lm) := ⟨WP_eq hG rfl, WP_eq hG rfl, WP_eq hG rfl, WP_eq hG rfl⟩
set_option maxRecDepth 20000 in
theorem US_Ne_init_52 {G : GT} (hG : Gmono G) (R : RT) (lm : Nat × Nat) : WP cd_Ne_init G R lm 52 = stp G R lm (2, 53, 0, 0, 0, 0, []) (WP cd_Ne_init G R lm) ∧ WP cd_Ne_init G R lm 53 = stp G R lm (7, 55, 0, 0, nI 7, 0, []) (WP cd_Ne_init G R lm) ∧ WP cd_Ne_init G R lm 55 = stp G R lm (71, 57, 0, 0, 0, 0, []) (WP cd_Ne_init G R lm) ∧ WP cd_Ne_init G R lm 57 = stp G R lm (61, 60, 2, 6, 0, 0, []) (WP cd_Ne_init G R lm) := ⟨WP_eq hG rfl, WP_eq hG rfl, WP_eq hG rfl, WP_eq hG rfl⟩
set_option maxRecDepth 20000 in
theorem US_Ne_init_60 {G : GT} (hG : Gmono G) (R : RT) (lm : Nat × Nat) : WP cd_Ne_init G R lm 60 = stp G R lm (2, 61, 0, 0, 0, 0, []) (WP cd_Ne_init G R lm) ∧ WP cd_Ne_init G R lm 61 = stp G R lm (7, 63, 0, 0, nI 7, 0, []) (WP cd_Ne_init G R lm) ∧ WP cd_Ne_init G R lm 63 = stp G R lm (71, 65, 0, 0, 0, 0, []) (WP cd_Ne_init G R lm) ∧ WP cd_Ne_init G R lm 65 = stp G R lm (61, 68, 2, 7, 0, 0, []) (WP cd_Ne_init G R lm) := ⟨WP_eq hG rfl, WP_eq hG rfl, WP_eq hG rfl, WP_eq hG rfl⟩
set_option maxRecDepth 20000 in
theorem US_Ne_init_68 {G : GT} (hG : Gmono G) (R : RT) (lm : Nat × Nat) : WP cd_Ne_init G R lm 68 = stp G R lm (2, 69, 0, 0, 0, 0, []) (WP cd_Ne_init G R lm) ∧ WP cd_Ne_init G R lm 69 = stp G R lm (7, 72, 0, 0, nI 420, 0, []) (WP cd_Ne_init G R lm) ∧ WP cd_Ne_init G R lm 72 = stp G R lm (71, 74, 0, 0, 0, 0, []) (WP cd_Ne_init G R lm) ∧ WP cd_Ne_init G R lm 74 = stp G R lm (61, 77, 2, 8, 0, 0, []) (WP cd_Ne_init G R lm) := ⟨WP_eq hG rfl, WP_eq hG rfl, WP_eq hG rfl, WP_eq hG rfl⟩
set_option maxRecDepth 20000 in
theorem US_Ne_init_77 {G : GT} (hG : Gmono G) (R : RT) (lm : Nat × Nat) : WP cd_Ne_init G R lm 77 = stp G R lm (2, 78, 0, 0, 0, 0, []) (WP cd_Ne_init G R lm) ∧ WP cd_Ne_init G R lm 78 = stp G R lm (58, 81, 2, 1, 0, 0, []) (WP cd_Ne_init G R lm) ∧ WP cd_Ne_init G R lm 81 = stp G R lm (7, 84, 0, 0, nI 9999, 0, []) (WP cd_Ne_init G R lm) ∧ WP cd_Ne_init G R lm 84 = stp G R lm (76, 87, 254, 2, 0, 0, []) (WP cd_Ne_init G R lm) ∧ WP cd_Ne_init G R lm 87 = stp G R lm (2, 88, 0, 0, 0, 0, []) (WP cd_Ne_init G R lm) ∧ WP cd_Ne_init G R lm 88 = stp G R lm (58, 91, 2, 3, 0, 0, []) (WP cd_Ne_init G R lm) ∧ WP cd_Ne_init G R lm 91 = stp G R lm (7, 94, 0, 0, nI 9999, 0, []) (WP cd_Ne_init G R lm) ∧ WP cd_Ne_init G R lm 94 = stp G R lm (76, 97, 254, 2, 0, 0, []) (WP cd_Ne_init G R lm) ∧ WP cd_Ne_init G R lm 97 = stp G R lm (2, 98, 0, 0, 0, 0, []) (WP cd_Ne_init G R lm) ∧ WP cd_Ne_init G R lm 98 = stp G R lm (58, 101, 2, 4, 0, 0, []) (WP cd_Ne_init G R lm) ∧ WP cd_Ne_init G R lm 101 = stp G R lm (7, 104, 0, 0, nI 9999, 0, []) (WP cd_Ne_init G R lm) ∧ WP cd_Ne_init G R lm 104 = stp G R lm (76, 107, 254, 2, 0, 0, []) (WP cd_Ne_init G R lm) ∧ WP cd_Ne_init G R lm 107 = stp G R lm (2, 108, 0, 0, 0, 0, []) (WP cd_Ne_init G R lm) ∧ WP cd_Ne_init G R lm 108 = stp G R lm (58, 111, 2, 5, 0, 0, []) (WP cd_Ne_init G R lm) ∧ WP cd_Ne_init G R lm 111 = stp G R lm (7, 112, 0, 0, (-1), 0, []) (WP cd_Ne_init G R lm) ∧ WP cd_Ne_init G R lm 112 = stp G R lm (76, 115, 254, 2, 0, 0, []) (WP cd_Ne_init G R lm) ∧ WP cd_Ne_init G R lm 115 = stp G R lm (2, 116, 0, 0, 0, 0, []) (WP cd_Ne_init G R lm) ∧ WP cd_Ne_init G R lm 116 = stp G R lm (58, 119, 2, 3, 0, 0, []) (WP cd_Ne_init G R lm) ∧ WP cd_Ne_init G R lm 119 = stp G R lm (7, 120, 0, 0, nI 0, 0, []) (WP cd_Ne_init G R lm) ∧ WP cd_Ne_init G R lm 120 = stp G R lm (7, 121, 0, 0, nI 0, 0, []) (WP cd_Ne_init G R lm) ∧ WP cd_Ne_init G R lm 121 = stp G R lm (66, 122, 0, 0, 0, 0, []) (WP cd_Ne_init G R lm) ∧ WP cd_Ne_init G R lm 122 = stp G R lm (2, 123, 0, 0, 0, 0, []) (WP cd_Ne_init G R lm) ∧ WP cd_Ne_init G R lm 123 = stp G R lm (58, 126, 2, 4, 0, 0, []) (WP cd_Ne_init G R lm) ∧ WP cd_Ne_init G R lm 126 = stp G R lm (7, 127, 0, 0, nI 0, 0, []) (WP cd_Ne_init G R lm) ∧ WP cd_Ne_init G R lm 127 = stp G R lm (7, 128, 0, 0, nI 0, 0, []) (WP cd_Ne_init G R lm) ∧ WP cd_Ne_init G R lm 128 = stp G R lm (66, 129, 0, 0, 0, 0, []) (WP cd_Ne_init G R lm) ∧ WP cd_Ne_init G R lm 129 = stp G R lm (84, 130, 0, 0, 0, 0, []) (WP cd_Ne_init G R lm) := ⟨WP_eq hG rfl, WP_eq hG rfl, WP_eq hG rfl, WP_eq hG rfl, WP_eq hG rfl, WP_eq hG rfl, WP_eq hG rfl, WP_eq hG rfl, WP_eq hG rfl, WP_eq hG rfl, WP_eq hG rfl, WP_eq hG rfl, WP_eq hG rfl, WP_eq hG rfl, WP_eq hG rfl, WP_eq hG rfl, WP_eq hG rfl, WP_eq hG rfl, WP_eq hG rfl, WP_eq hG rfl, WP_eq hG rfl, WP_eq hG rfl, WP_eq hG rfl, WP_eq hG rfl, WP_eq hG rfl, WP_eq hG rfl, WP_eq hG rfl⟩
def Inw (h H : MH) (q n u : Nat) : Prop := (hsz H = hsz h + n ∧ hcc H = hcc h + n ∧ hcu H = hcu h + u) ∧ (∀ x, x < hsz h → x ≠ q → Kp h H x ∧ hfr H x = hfr h x)
theorem NF.K {n : Nat} {h H : MH} (x : NF n h H) : ∀ y, (y < n ∨ n + 9 < y) → Kp h H y ∧ hfr H y = hfr h y := fun y hy => ⟨⟨by rw [x.1.2.2.2.1], by rw [x.1.2.2.2.2.1], x.2.1 y (by omega), x.2.2 y (by omega), by rw [x.1.2.2.2.2.2.2.2.1], by rw [x.1.2.2.2.2.2.2.2.2]⟩, by rw [x.1.2.2.2.2.2.2.1]⟩
theorem mNb_ini (r : Nat) (hr : r < 7) : mNb ini r = nI 0 := by
  rcases (show r = 0 ∨ r = 1 ∨ r = 2 ∨ r = 3 ∨ r = 4 ∨ r = 5 ∨ r = 6 by omega) with rfl | rfl | rfl | rfl | rfl | rfl | rfl <;> decide
theorem z32 : (0 : Int32) = nI 0 := rfl
theorem NeV_ini {F : MH} {q : Nat} (i1 : ∀ x, hia F (q + 1) x = nI 0) (i2 : ∀ j, j < 49 → hia F (q + 2) j = nI 9999) (i3 : ∀ x, hia F (q + 3) x = nI 0) (i4 : ∀ r, r < 7 → hia F (q + 4) r = if r = 0 then nI 0 else nI 9999) (i5 : ∀ r, r < 7 → hia F (q + 5) r = if r = 0 then nI 0 else nI 9999) (i6 : ∀ r, r < 7 → hia F (q + 6) r = -1) (i7 : ∀ x, hia F (q + 7) x = nI 0) (i8 : ∀ x, hia F (q + 8) x = nI 0) (f : ∀ x, hfi F q x = nI 0) : NeV F q ini := by
  have q0 : ql ini = 0 := rfl
  refine ⟨fun r o hr ho => by rw [i1, ini_C r o hr ho], fun r o hr ho => by rw [i2 _ (by omega), ini_T r o hr ho], fun r hr => by rw [i3, mNb_ini r hr], fun r hr => ?_, fun r hr => ?_, fun r hr => ?_, fun r hr => ?_, fun r hr => ?_, fun i hi => by rw [q0] at hi; omega, by rw [f, ini_0.2.2.2.2.2.2], ?_, ?_, by rw [f, ini_0.2.2.2.2.2.1]⟩
  · rw [ini_R r 0 hr (by omega), if_neg (by omega), if_pos (by omega)]; exact i4 r hr
  · rw [ini_R r 1 hr (by omega), if_neg (by omega), if_pos (by omega)]; exact i5 r hr
  · rw [i6 r hr, ini_R r 2 hr (by omega), if_pos rfl]
  · rw [i7, ini_R r 4 hr (by omega), if_neg (by omega), if_neg (by omega)]
  · rw [i8, ini_R r 5 hr (by omega), if_neg (by omega), if_neg (by omega)]
  · rw [f]
    exact ⟨0, by omega, rfl, fun r hr => by rw [ini_R r 3 hr (by omega), if_neg (by omega), if_neg (by omega)]; exact bt_n0 r hr⟩
  · rw [f]
    exact ⟨0, by omega, rfl, fun r hr => by rw [ini_R r 6 hr (by omega), if_neg (by omega), if_neg (by omega)]; exact bt_n0 r hr⟩
theorem x_nn1 (d q : Nat) {h : MH} (hq : q < hsz h) (R : RT) (K : ∀ H9, AA h H9 q ([] ++ [(0, 20, 49)] ++ [(1, 20, 49)] ++ [(2, 20, 7)] ++ [(3, 20, 7)] ++ [(4, 20, 7)] ++ [(5, 20, 7)] ++ [(6, 20, 7)] ++ [(7, 20, 7)] ++ [(8, 20, 420)]) → hkd H9 q = 2 → hsz H9 = hsz h + 9 → WP cd_Ne_init (callD (d + 1)) R (hcc h + 9, hcu h + 560) 77 [] [some (.ref q)] H9) (H0 : MH) (A0 : AA h H0 q []) (k0 : hkd H0 q = 2) (c0 : hcc H0 = hcc h + 0) (u0 : hcu H0 = hcu h + 0) (z0 : hsz H0 = hsz h + 0) : WP cd_Ne_init (callD (d + 1)) R (hcc h + 9, hcu h + 560) 0 [] [some (.ref q)] H0 := by
  have y1 : hcc H0 + 1 ≤ hcc h + 9 := by omega
  have y2 : hcu H0 + 49 ≤ hcu h + 560 := by omega
  have lq : q < hsz H0 := by omega
  have nq : ¬ q = hsz H0 := by omega
  simp (disch := omega) only [US_Ne_init_0 (cm _), SA, SB, SC1, SC2, SG, SK, SV, k0, y1, y2, ltI, nI_clamp, nq, Nat.not_lt_zero, up1_n, Nat.reduceLeDiff, true_or, or_true, true_implies, not_true_eq_false, not_false_eq_true, false_implies, true_and, and_true]
  have S := AS_g H0 q 0 20 49 lq
  generalize sFR (hnew H0 20 49) q (up1 (hfr H0 q) 0 (some (hsz H0))) = H1 at *
  have A1 := A0.push hq S (by decide)
  have k1 : hkd H1 q = 2 := by rw [(S.2.1 q lq).1]; exact k0
  have c1 : hcc H1 = hcc h + 1 := by have := S.1.2.1; omega
  have u1 : hcu H1 = hcu h + (49) := by have := S.1.2.2; omega
  have z1 : hsz H1 = hsz h + 1 := by have := S.1.1; omega
  clear S y1 y2 lq nq
  have y1 : hcc H1 + 1 ≤ hcc h + 9 := by omega
  have y2 : hcu H1 + 49 ≤ hcu h + 560 := by omega
  have lq : q < hsz H1 := by omega
  have nq : ¬ q = hsz H1 := by omega
  simp (disch := omega) only [US_Ne_init_12 (cm _), SA, SB, SC1, SC2, SG, SK, SV, k1, y1, y2, ltI, nI_clamp, nq, Nat.not_lt_zero, up1_n, Nat.reduceLeDiff, true_or, or_true, true_implies, not_true_eq_false, not_false_eq_true, false_implies, true_and, and_true]
  have S := AS_g H1 q 1 20 49 lq
  generalize sFR (hnew H1 20 49) q (up1 (hfr H1 q) 1 (some (hsz H1))) = H2 at *
  have A2 := A1.push hq S (by decide)
  have k2 : hkd H2 q = 2 := by rw [(S.2.1 q lq).1]; exact k1
  have c2 : hcc H2 = hcc h + 2 := by have := S.1.2.1; omega
  have u2 : hcu H2 = hcu h + (98) := by have := S.1.2.2; omega
  have z2 : hsz H2 = hsz h + 2 := by have := S.1.1; omega
  clear S y1 y2 lq nq
  have y1 : hcc H2 + 1 ≤ hcc h + 9 := by omega
  have y2 : hcu H2 + 7 ≤ hcu h + 560 := by omega
  have lq : q < hsz H2 := by omega
  have nq : ¬ q = hsz H2 := by omega
  simp (disch := omega) only [US_Ne_init_20 (cm _), SA, SB, SC1, SC2, SG, SK, SV, k2, y1, y2, ltI, nI_clamp, nq, Nat.not_lt_zero, up1_n, Nat.reduceLeDiff, true_or, or_true, true_implies, not_true_eq_false, not_false_eq_true, false_implies, true_and, and_true]
  have S := AS_g H2 q 2 20 7 lq
  generalize sFR (hnew H2 20 7) q (up1 (hfr H2 q) 2 (some (hsz H2))) = H3 at *
  have A3 := A2.push hq S (by decide)
  have k3 : hkd H3 q = 2 := by rw [(S.2.1 q lq).1]; exact k2
  have c3 : hcc H3 = hcc h + 3 := by have := S.1.2.1; omega
  have u3 : hcu H3 = hcu h + (105) := by have := S.1.2.2; omega
  have z3 : hsz H3 = hsz h + 3 := by have := S.1.1; omega
  clear S y1 y2 lq nq
  have y1 : hcc H3 + 1 ≤ hcc h + 9 := by omega
  have y2 : hcu H3 + 7 ≤ hcu h + 560 := by omega
  have lq : q < hsz H3 := by omega
  have nq : ¬ q = hsz H3 := by omega
  simp (disch := omega) only [US_Ne_init_28 (cm _), SA, SB, SC1, SC2, SG, SK, SV, k3, y1, y2, ltI, nI_clamp, nq, Nat.not_lt_zero, up1_n, Nat.reduceLeDiff, true_or, or_true, true_implies, not_true_eq_false, not_false_eq_true, false_implies, true_and, and_true]
  have S := AS_g H3 q 3 20 7 lq
  generalize sFR (hnew H3 20 7) q (up1 (hfr H3 q) 3 (some (hsz H3))) = H4 at *
  have A4 := A3.push hq S (by decide)
  have k4 : hkd H4 q = 2 := by rw [(S.2.1 q lq).1]; exact k3
  have c4 : hcc H4 = hcc h + 4 := by have := S.1.2.1; omega
  have u4 : hcu H4 = hcu h + (112) := by have := S.1.2.2; omega
  have z4 : hsz H4 = hsz h + 4 := by have := S.1.1; omega
  clear S y1 y2 lq nq
  have y1 : hcc H4 + 1 ≤ hcc h + 9 := by omega
  have y2 : hcu H4 + 7 ≤ hcu h + 560 := by omega
  have lq : q < hsz H4 := by omega
  have nq : ¬ q = hsz H4 := by omega
  simp (disch := omega) only [US_Ne_init_36 (cm _), SA, SB, SC1, SC2, SG, SK, SV, k4, y1, y2, ltI, nI_clamp, nq, Nat.not_lt_zero, up1_n, Nat.reduceLeDiff, true_or, or_true, true_implies, not_true_eq_false, not_false_eq_true, false_implies, true_and, and_true]
  have S := AS_g H4 q 4 20 7 lq
  generalize sFR (hnew H4 20 7) q (up1 (hfr H4 q) 4 (some (hsz H4))) = H5 at *
  have A5 := A4.push hq S (by decide)
  have k5 : hkd H5 q = 2 := by rw [(S.2.1 q lq).1]; exact k4
  have c5 : hcc H5 = hcc h + 5 := by have := S.1.2.1; omega
  have u5 : hcu H5 = hcu h + (119) := by have := S.1.2.2; omega
  have z5 : hsz H5 = hsz h + 5 := by have := S.1.1; omega
  clear S y1 y2 lq nq
  have y1 : hcc H5 + 1 ≤ hcc h + 9 := by omega
  have y2 : hcu H5 + 7 ≤ hcu h + 560 := by omega
  have lq : q < hsz H5 := by omega
  have nq : ¬ q = hsz H5 := by omega
  simp (disch := omega) only [US_Ne_init_44 (cm _), SA, SB, SC1, SC2, SG, SK, SV, k5, y1, y2, ltI, nI_clamp, nq, Nat.not_lt_zero, up1_n, Nat.reduceLeDiff, true_or, or_true, true_implies, not_true_eq_false, not_false_eq_true, false_implies, true_and, and_true]
  have S := AS_g H5 q 5 20 7 lq
  generalize sFR (hnew H5 20 7) q (up1 (hfr H5 q) 5 (some (hsz H5))) = H6 at *
  have A6 := A5.push hq S (by decide)
  have k6 : hkd H6 q = 2 := by rw [(S.2.1 q lq).1]; exact k5
  have c6 : hcc H6 = hcc h + 6 := by have := S.1.2.1; omega
  have u6 : hcu H6 = hcu h + (126) := by have := S.1.2.2; omega
  have z6 : hsz H6 = hsz h + 6 := by have := S.1.1; omega
  clear S y1 y2 lq nq
  have y1 : hcc H6 + 1 ≤ hcc h + 9 := by omega
  have y2 : hcu H6 + 7 ≤ hcu h + 560 := by omega
  have lq : q < hsz H6 := by omega
  have nq : ¬ q = hsz H6 := by omega
  simp (disch := omega) only [US_Ne_init_52 (cm _), SA, SB, SC1, SC2, SG, SK, SV, k6, y1, y2, ltI, nI_clamp, nq, Nat.not_lt_zero, up1_n, Nat.reduceLeDiff, true_or, or_true, true_implies, not_true_eq_false, not_false_eq_true, false_implies, true_and, and_true]
  have S := AS_g H6 q 6 20 7 lq
  generalize sFR (hnew H6 20 7) q (up1 (hfr H6 q) 6 (some (hsz H6))) = H7 at *
  have A7 := A6.push hq S (by decide)
  have k7 : hkd H7 q = 2 := by rw [(S.2.1 q lq).1]; exact k6
  have c7 : hcc H7 = hcc h + 7 := by have := S.1.2.1; omega
  have u7 : hcu H7 = hcu h + (133) := by have := S.1.2.2; omega
  have z7 : hsz H7 = hsz h + 7 := by have := S.1.1; omega
  clear S y1 y2 lq nq
  have y1 : hcc H7 + 1 ≤ hcc h + 9 := by omega
  have y2 : hcu H7 + 7 ≤ hcu h + 560 := by omega
  have lq : q < hsz H7 := by omega
  have nq : ¬ q = hsz H7 := by omega
  simp (disch := omega) only [US_Ne_init_60 (cm _), SA, SB, SC1, SC2, SG, SK, SV, k7, y1, y2, ltI, nI_clamp, nq, Nat.not_lt_zero, up1_n, Nat.reduceLeDiff, true_or, or_true, true_implies, not_true_eq_false, not_false_eq_true, false_implies, true_and, and_true]
  have S := AS_g H7 q 7 20 7 lq
  generalize sFR (hnew H7 20 7) q (up1 (hfr H7 q) 7 (some (hsz H7))) = H8 at *
  have A8 := A7.push hq S (by decide)
  have k8 : hkd H8 q = 2 := by rw [(S.2.1 q lq).1]; exact k7
  have c8 : hcc H8 = hcc h + 8 := by have := S.1.2.1; omega
  have u8 : hcu H8 = hcu h + (140) := by have := S.1.2.2; omega
  have z8 : hsz H8 = hsz h + 8 := by have := S.1.1; omega
  clear S y1 y2 lq nq
  have y1 : hcc H8 + 1 ≤ hcc h + 9 := by omega
  have y2 : hcu H8 + 420 ≤ hcu h + 560 := by omega
  have lq : q < hsz H8 := by omega
  have nq : ¬ q = hsz H8 := by omega
  simp (disch := omega) only [US_Ne_init_68 (cm _), SA, SB, SC1, SC2, SG, SK, SV, k8, y1, y2, ltI, nI_clamp, nq, Nat.not_lt_zero, up1_n, Nat.reduceLeDiff, true_or, or_true, true_implies, not_true_eq_false, not_false_eq_true, false_implies, true_and, and_true]
  have S := AS_g H8 q 8 20 420 lq
  generalize sFR (hnew H8 20 420) q (up1 (hfr H8 q) 8 (some (hsz H8))) = H9 at *
  have A9 := A8.push hq S (by decide)
  have k9 : hkd H9 q = 2 := by rw [(S.2.1 q lq).1]; exact k8
  have c9 : hcc H9 = hcc h + 9 := by have := S.1.2.1; omega
  have u9 : hcu H9 = hcu h + (560) := by have := S.1.2.2; omega
  have z9 : hsz H9 = hsz h + 9 := by have := S.1.1; omega
  clear S y1 y2 lq nq
  exact K H9 A9 k9 z9
theorem x_zz : True := trivial
