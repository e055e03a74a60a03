/-! ===== judge, tape, reader, history are made ===== -/
set_option maxRecDepth 20000 in
theorem US_Ju_init_0 {G : GT} (hG : Gmono G) (R : RT) (lm : Nat × Nat) : WP cd_Ju_init G R lm 0 = stp G R lm (2, 1, 0, 0, 0, 0, []) (WP cd_Ju_init G R lm) ∧ WP cd_Ju_init G R lm 1 = stp G R lm (77, 4, 0, 0, 0, 0, []) (WP cd_Ju_init G R lm) ∧ WP cd_Ju_init G R lm 4 = stp G R lm (2, 5, 0, 0, 0, 0, []) (WP cd_Ju_init G R lm) ∧ WP cd_Ju_init G R lm 5 = stp G R lm (7, 7, 0, 0, nI 23, 0, []) (WP cd_Ju_init G R lm) ∧ WP cd_Ju_init G R lm 7 = stp G R lm (71, 9, 0, 0, 0, 0, []) (WP cd_Ju_init G R lm) ∧ WP cd_Ju_init G R lm 9 = stp G R lm (61, 12, 1, 0, 0, 0, []) (WP cd_Ju_init G R lm) := ⟨WP_eq hG rfl, WP_eq hG rfl, WP_eq hG rfl, WP_eq hG rfl, WP_eq hG rfl, WP_eq hG rfl⟩
set_option maxRecDepth 20000 in
theorem US_Ju_init_12 {G : GT} (hG : Gmono G) (R : RT) (lm : Nat × Nat) : WP cd_Ju_init G R lm 12 = stp G R lm (2, 13, 0, 0, 0, 0, []) (WP cd_Ju_init G R lm) ∧ WP cd_Ju_init G R lm 13 = stp G R lm (7, 15, 0, 0, nI 64, 0, []) (WP cd_Ju_init G R lm) ∧ WP cd_Ju_init G R lm 15 = stp G R lm (71, 17, 0, 0, 0, 0, []) (WP cd_Ju_init G R lm) ∧ WP cd_Ju_init G R lm 17 = stp G R lm (61, 20, 1, 1, 0, 0, []) (WP cd_Ju_init G R lm) := ⟨WP_eq hG rfl, WP_eq hG rfl, WP_eq hG rfl, WP_eq hG rfl⟩
set_option maxRecDepth 20000 in
theorem US_Ju_init_20 {G : GT} (hG : Gmono G) (R : RT) (lm : Nat × Nat) : WP cd_Ju_init G R lm 20 = stp G R lm (84, 21, 0, 0, 0, 0, []) (WP cd_Ju_init G R lm) := WP_eq hG rfl
set_option maxRecDepth 20000 in
theorem US_Ta_init_0 {G : GT} (hG : Gmono G) (R : RT) (lm : Nat × Nat) : WP cd_Ta_init G R lm 0 = stp G R lm (2, 1, 0, 0, 0, 0, []) (WP cd_Ta_init G R lm) ∧ WP cd_Ta_init G R lm 1 = stp G R lm (77, 4, 0, 0, 0, 0, []) (WP cd_Ta_init G R lm) ∧ WP cd_Ta_init G R lm 4 = stp G R lm (2, 5, 0, 0, 0, 0, []) (WP cd_Ta_init G R lm) ∧ WP cd_Ta_init G R lm 5 = stp G R lm (7, 8, 0, 0, nI 400, 0, []) (WP cd_Ta_init G R lm) ∧ WP cd_Ta_init G R lm 8 = stp G R lm (71, 10, 0, 0, 0, 0, []) (WP cd_Ta_init G R lm) ∧ WP cd_Ta_init G R lm 10 = stp G R lm (61, 13, 5, 0, 0, 0, []) (WP cd_Ta_init G R lm) := ⟨WP_eq hG rfl, WP_eq hG rfl, WP_eq hG rfl, WP_eq hG rfl, WP_eq hG rfl, WP_eq hG rfl⟩
set_option maxRecDepth 20000 in
theorem US_Ta_init_13 {G : GT} (hG : Gmono G) (R : RT) (lm : Nat × Nat) : WP cd_Ta_init G R lm 13 = stp G R lm (84, 14, 0, 0, 0, 0, []) (WP cd_Ta_init G R lm) := WP_eq hG rfl
set_option maxRecDepth 20000 in
theorem US_Re_init_0 {G : GT} (hG : Gmono G) (R : RT) (lm : Nat × Nat) : WP cd_Re_init G R lm 0 = stp G R lm (2, 1, 0, 0, 0, 0, []) (WP cd_Re_init G R lm) ∧ WP cd_Re_init G R lm 1 = stp G R lm (77, 4, 0, 0, 0, 0, []) (WP cd_Re_init G R lm) ∧ WP cd_Re_init G R lm 4 = stp G R lm (2, 5, 0, 0, 0, 0, []) (WP cd_Re_init G R lm) ∧ WP cd_Re_init G R lm 5 = stp G R lm (75, 8, 5, 6, 0, 0, []) (WP cd_Re_init G R lm) ∧ WP cd_Re_init G R lm 8 = stp G R lm (37, 9, 0, 0, 0, 0, []) (WP cd_Re_init G R lm) ∧ WP cd_Re_init G R lm 9 = stp G R lm (90, 12, 63, 0, 0, 0, [5, 1, 400]) (WP cd_Re_init G R lm) ∧ WP cd_Re_init G R lm 12 = stp G R lm (61, 15, 4, 0, 0, 0, []) (WP cd_Re_init G R lm) := ⟨WP_eq hG rfl, WP_eq hG rfl, WP_eq hG rfl, WP_eq hG rfl, WP_eq hG rfl, WP_eq hG rfl, WP_eq hG rfl⟩
set_option maxRecDepth 20000 in
theorem US_Re_init_15 {G : GT} (hG : Gmono G) (R : RT) (lm : Nat × Nat) : WP cd_Re_init G R lm 15 = stp G R lm (2, 16, 0, 0, 0, 0, []) (WP cd_Re_init G R lm) ∧ WP cd_Re_init G R lm 16 = stp G R lm (7, 19, 0, 0, nI 448, 0, []) (WP cd_Re_init G R lm) ∧ WP cd_Re_init G R lm 19 = stp G R lm (71, 21, 0, 0, 0, 0, []) (WP cd_Re_init G R lm) ∧ WP cd_Re_init G R lm 21 = stp G R lm (61, 24, 4, 1, 0, 0, []) (WP cd_Re_init G R lm) := ⟨WP_eq hG rfl, WP_eq hG rfl, WP_eq hG rfl, WP_eq hG rfl⟩
set_option maxRecDepth 20000 in
theorem US_Re_init_24 {G : GT} (hG : Gmono G) (R : RT) (lm : Nat × Nat) : WP cd_Re_init G R lm 24 = stp G R lm (2, 25, 0, 0, 0, 0, []) (WP cd_Re_init G R lm) ∧ WP cd_Re_init G R lm 25 = stp G R lm (7, 27, 0, 0, nI 72, 0, []) (WP cd_Re_init G R lm) ∧ WP cd_Re_init G R lm 27 = stp G R lm (71, 29, 0, 0, 0, 0, []) (WP cd_Re_init G R lm) ∧ WP cd_Re_init G R lm 29 = stp G R lm (61, 32, 4, 2, 0, 0, []) (WP cd_Re_init G R lm) := ⟨WP_eq hG rfl, WP_eq hG rfl, WP_eq hG rfl, WP_eq hG rfl⟩
set_option maxRecDepth 20000 in
theorem US_Re_init_32 {G : GT} (hG : Gmono G) (R : RT) (lm : Nat × Nat) : WP cd_Re_init G R lm 32 = stp G R lm (2, 33, 0, 0, 0, 0, []) (WP cd_Re_init G R lm) ∧ WP cd_Re_init G R lm 33 = stp G R lm (7, 34, 0, 0, (-1), 0, []) (WP cd_Re_init G R lm) ∧ WP cd_Re_init G R lm 34 = stp G R lm (59, 37, 4, 6, 0, 0, []) (WP cd_Re_init G R lm) ∧ WP cd_Re_init G R lm 37 = stp G R lm (84, 38, 0, 0, 0, 0, []) (WP cd_Re_init G R lm) := ⟨WP_eq hG rfl, WP_eq hG rfl, WP_eq hG rfl, WP_eq hG rfl⟩
set_option maxRecDepth 20000 in
theorem US_Hi_init_0 {G : GT} (hG : Gmono G) (R : RT) (lm : Nat × Nat) : WP cd_Hi_init G R lm 0 = stp G R lm (2, 1, 0, 0, 0, 0, []) (WP cd_Hi_init G R lm) ∧ WP cd_Hi_init G R lm 1 = stp G R lm (77, 4, 0, 0, 0, 0, []) (WP cd_Hi_init G R lm) ∧ WP cd_Hi_init G R lm 4 = stp G R lm (2, 5, 0, 0, 0, 0, []) (WP cd_Hi_init G R lm) ∧ WP cd_Hi_init G R lm 5 = stp G R lm (7, 7, 0, 0, nI 17, 0, []) (WP cd_Hi_init G R lm) ∧ WP cd_Hi_init G R lm 7 = stp G R lm (74, 10, 23, 0, 0, 0, []) (WP cd_Hi_init G R lm) ∧ WP cd_Hi_init G R lm 10 = stp G R lm (61, 13, 0, 0, 0, 0, []) (WP cd_Hi_init G R lm) := ⟨WP_eq hG rfl, WP_eq hG rfl, WP_eq hG rfl, WP_eq hG rfl, WP_eq hG rfl, WP_eq hG rfl⟩
set_option maxRecDepth 20000 in
theorem US_Hi_init_13 {G : GT} (hG : Gmono G) (R : RT) (lm : Nat × Nat) : WP cd_Hi_init G R lm 13 = stp G R lm (2, 14, 0, 0, 0, 0, []) (WP cd_Hi_init G R lm) ∧ WP cd_Hi_init G R lm 14 = stp G R lm (7, 16, 0, 0, nI 17, 0, []) (WP cd_Hi_init G R lm) ∧ WP cd_Hi_init G R lm 16 = stp G R lm (71, 18, 0, 0, 0, 0, []) (WP cd_Hi_init G R lm) ∧ WP cd_Hi_init G R lm 18 = stp G R lm (61, 21, 0, 1, 0, 0, []) (WP cd_Hi_init G R lm) := ⟨WP_eq hG rfl, WP_eq hG rfl, WP_eq hG rfl, WP_eq hG rfl⟩
set_option maxRecDepth 20000 in
theorem US_Hi_init_21 {G : GT} (hG : Gmono G) (R : RT) (lm : Nat × Nat) : WP cd_Hi_init G R lm 21 = stp G R lm (7, 22, 0, 0, nI 0, 0, []) (WP cd_Hi_init G R lm) ∧ WP cd_Hi_init G R lm 22 = stp G R lm (4, 23, 1, 0, 0, 0, []) (WP cd_Hi_init G R lm) := ⟨WP_eq hG rfl, WP_eq hG rfl⟩
set_option maxRecDepth 20000 in
theorem US_Hi_init_24 {G : GT} (hG : Gmono G) (R : RT) (lm : Nat × Nat) : WP cd_Hi_init G R lm 24 = stp G R lm (7, 26, 0, 0, nI 17, 0, []) (WP cd_Hi_init G R lm) ∧ WP cd_Hi_init G R lm 26 = stp G R lm (44, 29, 48, 0, 0, 0, []) (WP cd_Hi_init G R lm) ∧ WP cd_Hi_init G R lm 29 = stp G R lm (2, 30, 0, 0, 0, 0, []) (WP cd_Hi_init G R lm) ∧ WP cd_Hi_init G R lm 30 = stp G R lm (58, 33, 0, 0, 0, 0, []) (WP cd_Hi_init G R lm) ∧ WP cd_Hi_init G R lm 33 = stp G R lm (1, 34, 1, 0, 0, 0, []) (WP cd_Hi_init G R lm) ∧ WP cd_Hi_init G R lm 34 = stp G R lm (75, 37, 2, 13, 0, 0, []) (WP cd_Hi_init G R lm) ∧ WP cd_Hi_init G R lm 37 = stp G R lm (37, 38, 0, 0, 0, 0, []) (WP cd_Hi_init G R lm) ∧ WP cd_Hi_init G R lm 38 = stp G R lm (90, 41, 16, 0, 0, 0, [2, 9, 560]) (WP cd_Hi_init G R lm) ∧ WP cd_Hi_init G R lm 41 = stp G R lm (69, 42, 0, 0, 0, 0, []) (WP cd_Hi_init G R lm) ∧ WP cd_Hi_init G R lm 42 = stp G R lm (11, 45, 1, 0, nI 1, 0, []) (WP cd_Hi_init G R lm) ∧ WP cd_Hi_init G R lm 45 = stp G R lm (40, 23, 0, 0, 0, 0, []) (WP cd_Hi_init G R lm) ∧ WP cd_Hi_init G R lm 48 = stp G R lm (84, 49, 0, 0, 0, 0, []) (WP cd_Hi_init G R lm) := ⟨WP_eq hG rfl, WP_eq hG rfl, WP_eq hG rfl, WP_eq hG rfl, WP_eq hG rfl, WP_eq hG rfl, WP_eq hG rfl, WP_eq hG rfl, WP_eq hG rfl, WP_eq hG rfl, WP_eq hG rfl, WP_eq hG rfl⟩
theorem AA.sc {h H F : MH} {q c u : Nat} {l : List (Nat × Nat × Nat)} (a : AA h H q l) (s : SCg H F c u) : AA h F q l := by
  obtain ⟨⟨s1, s2, s3, s4, s5⟩, -⟩ := s
  unfold AA Kp at *
  rw [s1, s2.1, s2.2.1, s2.2.2.1, s2.2.2.2, s3, s4, s5]
  exact a
theorem x_nj1 (d : Nat) {h : MH} (hq : 218 < hsz h) (R : RT) (K : ∀ H2, AA h H2 218 ([] ++ [(0, 20, 23)] ++ [(1, 20, 64)]) → hkd H2 218 = 1 → R none H2) (H0 : MH) (A0 : AA h H0 218 []) (k0 : hkd H0 218 = 1) (c0 : hcc H0 = hcc h + 0) (u0 : hcu H0 = hcu h + 0) (z0 : hsz H0 = hsz h + 0) : WP cd_Ju_init (callD d) R (hcc h + 2, hcu h + 87) 0 [] [some (.ref 218)] H0 := by
  have y1 : hcc H0 + 1 ≤ hcc h + 2 := by omega
  have y2 : hcu H0 + 23 ≤ hcu h + 87 := by omega
  have lq : 218 < hsz H0 := by omega
  have nq : ¬ 218 = hsz H0 := by omega
  simp (disch := omega) only [US_Ju_init_0 (cm _), SA, SB, SC1, SC2, SG, SK, SV, k0, y1, y2, ltI, nI_clamp, nq, Nat.not_lt_zero, up1_n, Nat.reduceLeDiff, true_or, or_true, true_implies, not_true_eq_false, not_false_eq_true, false_implies, true_and, and_true]
  have S := AS_g H0 218 0 20 23 lq
  generalize sFR (hnew H0 20 23) 218 (up1 (hfr H0 218) 0 (some (hsz H0))) = H1 at *
  have A1 := A0.push hq S (by decide)
  have k1 : hkd H1 218 = 1 := by rw [(S.2.1 218 lq).1]; exact k0
  have c1 : hcc H1 = hcc h + 1 := by have := S.1.2.1; omega
  have u1 : hcu H1 = hcu h + (23) := by have := S.1.2.2; omega
  have z1 : hsz H1 = hsz h + 1 := by have := S.1.1; omega
  clear S y1 y2 lq nq
  have y1 : hcc H1 + 1 ≤ hcc h + 2 := by omega
  have y2 : hcu H1 + 64 ≤ hcu h + 87 := by omega
  have lq : 218 < hsz H1 := by omega
  have nq : ¬ 218 = hsz H1 := by omega
  simp (disch := omega) only [US_Ju_init_12 (cm _), SA, SB, SC1, SC2, SG, SK, SV, k1, y1, y2, ltI, nI_clamp, nq, Nat.not_lt_zero, up1_n, Nat.reduceLeDiff, true_or, or_true, true_implies, not_true_eq_false, not_false_eq_true, false_implies, true_and, and_true]
  have S := AS_g H1 218 1 20 64 lq
  generalize sFR (hnew H1 20 64) 218 (up1 (hfr H1 218) 1 (some (hsz H1))) = H2 at *
  have A2 := A1.push hq S (by decide)
  have k2 : hkd H2 218 = 1 := by rw [(S.2.1 218 lq).1]; exact k1
  have c2 : hcc H2 = hcc h + 2 := by have := S.1.2.1; omega
  have u2 : hcu H2 = hcu h + (87) := by have := S.1.2.2; omega
  have z2 : hsz H2 = hsz h + 2 := by have := S.1.1; omega
  clear S y1 y2 lq nq
  have Y := K H2 A2 k2
  simp (disch := omega) only [US_Ju_init_20 (cm _), SA, SB, SC1, SC2, SG, SK, SV, true_or, or_true, true_implies, not_true_eq_false, not_false_eq_true, false_implies, true_and, and_true]
  exact Y
def Inq (h F : MH) (q n u : Nat) : Prop := (hsz F = hsz h + n ∧ hcc F = hcc h + n ∧ hcu F = hcu h + u) ∧ ∀ x, x < hsz h → x ≠ q → Kp h F x ∧ hfr F x = hfr h x
theorem x_newJudge (d : Nat) {h : MH} (k1 : hkd h 218 = 1) (hz : hsz h = 219) (Q : RT) (K : ∀ F, Inq h F 218 2 87 → JS F 218 219 220 → Q none F) : callD (d + 1) 6 [.ref 218] h Q := by
  rw [E_Ju_init]
  refine x_nj1 d (by omega) _ (fun H2 A2 k2 => ?_) h (AA.nil h 218) k1 rfl rfl rfl
  have sc := sc_g H2 (hcc h + 2) (hcu h + 87)
  have A := A2.sc sc
  have kF : hkd (sCC H2 (hcc h + 2) (hcu h + 87)) 218 = 1 := by rw [sc.1.2.1.1]; exact k2
  generalize sCC H2 (hcc h + 2) (hcu h + 87) = F at *
  obtain ⟨w1, w2, w3, w4, w5⟩ := A
  have a1 := w5 0 (0, 20, 23) rfl
  have a2 := w5 1 (1, 20, 64) rfl
  rw [hz] at a1 a2
  exact K F ⟨⟨w1, sc.2.1, sc.2.2⟩, fun x hx ne => ⟨w2 x hx, w3 x hx ne⟩⟩ ⟨⟨kF, a1.1, a1.2.1, a1.2.2.1, a2.1, a2.2.1, a2.2.2.1⟩, by omega, by omega, by omega⟩
theorem x_nt1 (d : Nat) {h : MH} (hq : 214 < hsz h) (R : RT) (K : ∀ H1, AA h H1 214 ([] ++ [(0, 20, 400)]) → hkd H1 214 = 5 → R none H1) (H0 : MH) (A0 : AA h H0 214 []) (k0 : hkd H0 214 = 5) (c0 : hcc H0 = hcc h + 0) (u0 : hcu H0 = hcu h + 0) (z0 : hsz H0 = hsz h + 0) : WP cd_Ta_init (callD d) R (hcc h + 1, hcu h + 400) 0 [] [some (.ref 214)] H0 := by
  have y1 : hcc H0 + 1 ≤ hcc h + 1 := by omega
  have y2 : hcu H0 + 400 ≤ hcu h + 400 := by omega
  have lq : 214 < hsz H0 := by omega
  have nq : ¬ 214 = hsz H0 := by omega
  simp (disch := omega) only [US_Ta_init_0 (cm _), SA, SB, SC1, SC2, SG, SK, SV, k0, y1, y2, ltI, nI_clamp, nq, Nat.not_lt_zero, up1_n, Nat.reduceLeDiff, true_or, or_true, true_implies, not_true_eq_false, not_false_eq_true, false_implies, true_and, and_true]
  have S := AS_g H0 214 0 20 400 lq
  generalize sFR (hnew H0 20 400) 214 (up1 (hfr H0 214) 0 (some (hsz H0))) = H1 at *
  have A1 := A0.push hq S (by decide)
  have k1 : hkd H1 214 = 5 := by rw [(S.2.1 214 lq).1]; exact k0
  have c1 : hcc H1 = hcc h + 1 := by have := S.1.2.1; omega
  have u1 : hcu H1 = hcu h + (400) := by have := S.1.2.2; omega
  have z1 : hsz H1 = hsz h + 1 := by have := S.1.1; omega
  clear S y1 y2 lq nq
  have Y := K H1 A1 k1
  simp (disch := omega) only [US_Ta_init_13 (cm _), SA, SB, SC1, SC2, SG, SK, SV, true_or, or_true, true_implies, not_true_eq_false, not_false_eq_true, false_implies, true_and, and_true]
  exact Y
theorem x_newTape (d : Nat) {h : MH} (k5 : hkd h 214 = 5) (hz : hsz h = 215) (Q : RT) (K : ∀ F, Inq h F 214 1 400 → hkd F 214 = 5 → hfi F 214 = hfi h 214 → hfr F 214 0 = some 215 → hkd F 215 = 20 → hln F 215 = 400 → Q none F) : callD (d + 1) 63 [.ref 214] h Q := by
  rw [E_Ta_init]
  refine x_nt1 d (by omega) _ (fun H2 A2 k2 => ?_) h (AA.nil h 214) k5 rfl rfl rfl
  have sc := sc_g H2 (hcc h + 1) (hcu h + 400)
  have A := A2.sc sc
  have kF : hkd (sCC H2 (hcc h + 1) (hcu h + 400)) 214 = 5 := by rw [sc.1.2.1.1]; exact k2
  generalize sCC H2 (hcc h + 1) (hcu h + 400) = F at *
  obtain ⟨w1, w2, w3, w4, w5⟩ := A
  have a1 := w5 0 (0, 20, 400) rfl
  rw [hz] at a1
  exact K F ⟨⟨w1, sc.2.1, sc.2.2⟩, fun x hx ne => ⟨w2 x hx, w3 x hx ne⟩⟩ kF (w2 214 (by omega)).2.2.1 a1.1 a1.2.1 a1.2.2.1
theorem x_nr1 (d : Nat) {h : MH} (hq : 213 < hsz h) (R : RT) (K : ∀ H2, AA h H2 213 ([] ++ [(1, 20, 448)] ++ [(2, 20, 72)]) → hkd H2 213 = 4 → WP cd_Re_init (callD d) R (hcc h + 2, hcu h + 520) 32 [] [some (.ref 213)] H2) (H0 : MH) (A0 : AA h H0 213 []) (k0 : hkd H0 213 = 4) (c0 : hcc H0 = hcc h + 0) (u0 : hcu H0 = hcu h + 0) (z0 : hsz H0 = hsz h + 0) : WP cd_Re_init (callD d) R (hcc h + 2, hcu h + 520) 15 [] [some (.ref 213)] H0 := by
  have y1 : hcc H0 + 1 ≤ hcc h + 2 := by omega
  have y2 : hcu H0 + 448 ≤ hcu h + 520 := by omega
  have lq : 213 < hsz H0 := by omega
  have nq : ¬ 213 = hsz H0 := by omega
  simp (disch := omega) only [US_Re_init_15 (cm _), SA, SB, SC1, SC2, SG, SK, SV, k0, y1, y2, ltI, nI_clamp, nq, Nat.not_lt_zero, up1_n, Nat.reduceLeDiff, true_or, or_true, true_implies, not_true_eq_false, not_false_eq_true, false_implies, true_and, and_true]
  have S := AS_g H0 213 1 20 448 lq
  generalize sFR (hnew H0 20 448) 213 (up1 (hfr H0 213) 1 (some (hsz H0))) = H1 at *
  have A1 := A0.push hq S (by decide)
  have k1 : hkd H1 213 = 4 := by rw [(S.2.1 213 lq).1]; exact k0
  have c1 : hcc H1 = hcc h + 1 := by have := S.1.2.1; omega
  have u1 : hcu H1 = hcu h + (448) := by have := S.1.2.2; omega
  have z1 : hsz H1 = hsz h + 1 := by have := S.1.1; omega
  clear S y1 y2 lq nq
  have y1 : hcc H1 + 1 ≤ hcc h + 2 := by omega
  have y2 : hcu H1 + 72 ≤ hcu h + 520 := by omega
  have lq : 213 < hsz H1 := by omega
  have nq : ¬ 213 = hsz H1 := by omega
  simp (disch := omega) only [US_Re_init_24 (cm _), SA, SB, SC1, SC2, SG, SK, SV, k1, y1, y2, ltI, nI_clamp, nq, Nat.not_lt_zero, up1_n, Nat.reduceLeDiff, true_or, or_true, true_implies, not_true_eq_false, not_false_eq_true, false_implies, true_and, and_true]
  have S := AS_g H1 213 2 20 72 lq
  generalize sFR (hnew H1 20 72) 213 (up1 (hfr H1 213) 2 (some (hsz H1))) = H2 at *
  have A2 := A1.push hq S (by decide)
  have k2 : hkd H2 213 = 4 := by rw [(S.2.1 213 lq).1]; exact k1
  have c2 : hcc H2 = hcc h + 2 := by have := S.1.2.1; omega
  have u2 : hcu H2 = hcu h + (520) := by have := S.1.2.2; omega
  have z2 : hsz H2 = hsz h + 2 := by have := S.1.1; omega
  clear S y1 y2 lq nq
  exact K H2 A2 k2
theorem x_newReader (d : Nat) {h : MH} (k4 : hkd h 213 = 4) (hz : hsz h = 214) (f0 : hfi h 213 = fun _ => 0) (Q : RT) (K : ∀ F, Inq h F 213 4 926 → XSr F → hfi F 213 = up1 (fun _ => 0) 6 (-1) → hfi F 214 = (fun _ => 0) → Q none F) : callD (d + 2) 45 [.ref 213] h Q := by
  rw [E_Re_init]
  have F1 := Frc_g h 5 6
  have nq : ¬ 213 = hsz h := by omega
  simp (disch := omega) only [US_Re_init_0 (cm _), SA, SB, SC1, SC2, SG, SK, SV, k4, up1_s, Nat.add_le_add_iff_left, Nat.add_assoc, Nat.reduceAdd, Nat.reduceLeDiff, true_or, or_true, true_implies, not_true_eq_false, not_false_eq_true, false_implies, true_and, and_true]
  generalize hnew h 5 6 = h1 at *
  obtain ⟨⟨z1, c1, u1⟩, b1, e1, -, e3, e4, -⟩ := F1
  rw [hz] at e1 e3 e4 b1 z1 ⊢
  refine x_newTape d e1 z1 _ (fun h2 I2 t1 t2 t3 t4 t5 => ?_)
  obtain ⟨⟨z2, c2, u2⟩, b2⟩ := I2
  have K2 : ∀ x, x < 214 → Kp h h2 x ∧ hfr h2 x = hfr h x := fun x hx => ⟨(b1 x hx).1.trans (b2 x (by omega) (by omega)).1, (b2 x (by omega) (by omega)).2.trans (b1 x hx).2⟩
  have k42 : hkd h2 213 = 4 := by rw [(K2 213 (by omega)).1.1]; exact k4
  obtain ⟨R3, r3⟩ := FRs_g h2 213 (up1 (hfr h2 213) 0 (some 214))
  simp (disch := omega) only [US_Re_init_0 (cm _), SA, SB, SC1, SC2, SG, SK, SV, k42, true_or, or_true, true_implies, not_true_eq_false, not_false_eq_true, false_implies, true_and, and_true]
  generalize sFR h2 213 (up1 (hfr h2 213) 0 (some 214)) = h3 at *
  obtain ⟨⟨z3, c3, u3⟩, b3, g3⟩ := R3
  have k43 : hkd h3 213 = 4 := by rw [(b3 213).1]; exact k42
  rw [show hcc h + 4 = hcc h3 + 2 by omega, show hcu h + 926 = hcu h3 + 520 by omega]
  refine x_nr1 (d + 1) (h := h3) (by omega) _ (fun H4 A4 k4' => ?_) h3 (AA.nil h3 213) k43 rfl rfl rfl
  obtain ⟨w1, w2, w3, w4, w5⟩ := A4
  have hz3 : hsz h3 = 216 := by omega
  have a1 := w5 0 (1, 20, 448) rfl
  have a2 := w5 1 (2, 20, 72) rfl
  have a0 : hfr H4 213 0 = some 214 := by
    rw [w4 0 (by
      intro i e he
      have m := List.mem_of_getElem? he
      clear he
      revert m
      revert e
      decide), r3, up1_s]
  rw [hz3] at a1 a2 w2 w3
  simp (disch := omega) only [US_Re_init_32 (cm _), SA, SB, SC1, SC2, SG, SK, SV, k4', true_or, or_true, true_implies, not_true_eq_false, not_false_eq_true, false_implies, true_and, and_true]
  obtain ⟨-, i2, -, i4, i5⟩ := fi_g H4 213 (up1 (hfi H4 213) 6 (-1))
  have is := she_fi H4 213 (up1 (hfi H4 213) 6 (-1))
  generalize sFI H4 213 (up1 (hfi H4 213) 6 (-1)) = h5 at *
  have sc := sc_g h5 (hcc h3 + 2) (hcu h3 + 520)
  generalize sCC h5 (hcc h3 + 2) (hcu h3 + 520) = F at *
  obtain ⟨⟨sc1, sc2, sc3, sc4, sc5⟩, sc6, sc7⟩ := sc
  have SS := is.1.2.2.2.trans sc2
  have KF : ∀ x, x ≠ 213 → Kp H4 F x := fun x hx => ⟨by rw [SS.1], by rw [SS.2.1], by rw [sc3]; exact i5 x hx, by rw [sc4, i2], by rw [sc5, is.2], by rw [SS.2.2.2]⟩
  have fq : hfi H4 213 = fun _ => 0 := by rw [(w2 213 (by omega)).2.2.1, (b3 213).2.2.1, (K2 213 (by omega)).1.2.2.1]; exact f0
  have N : ∀ x, x < 216 → x ≠ 213 → Kp h2 F x ∧ hfr F x = hfr h2 x := fun x hx ne => ⟨((b3 x).trans (w2 x hx)).trans (KF x ne), by rw [SS.2.2.1, w3 x hx ne, g3 x ne]⟩
  refine K F ⟨⟨by rw [sc1, is.1.1, w1, hz3, hz]; rfl, by rw [sc6]; omega, by rw [sc7]; omega⟩, fun x hx ne => ?_⟩ ⟨?_, ?_, ?_, ?_, ?_, ?_, ?_, ?_, ?_, ?_, ?_, ?_⟩ ?_ ?_
  · rw [hz] at hx
    exact ⟨(K2 x hx).1.trans (N x (by omega) ne).1, (N x (by omega) ne).2.trans (K2 x hx).2⟩
  · rw [SS.1]; exact k4'
  · rw [SS.2.2.1]; exact a0
  · rw [SS.2.2.1]; exact a1.1
  · rw [SS.2.2.1]; exact a2.1
  · rw [(N 214 (by omega) (by omega)).1.1]; exact t1
  · rw [(N 214 (by omega) (by omega)).2]; exact t3
  · rw [(N 215 (by omega) (by omega)).1.1]; exact t4
  · rw [(N 215 (by omega) (by omega)).1.2.1]; exact t5
  · rw [SS.1]; exact a1.2.1
  · rw [SS.2.1]; exact a1.2.2.1
  · rw [SS.1]; exact a2.2.1
  · rw [SS.2.1]; exact a2.2.2.1
  · rw [sc3, i4, fq]
  · rw [(N 214 (by omega) (by omega)).1.2.2.1, t2]; exact e3
