/-! ===== a world is made ===== -/
set_option maxRecDepth 20000 in
theorem US_Wo_init_0 {G : GT} (hG : Gmono G) (R : RT) (lm : Nat × Nat) : WP cd_Wo_init G R lm 0 = stp G R lm (2, 1, 0, 0, 0, 0, []) (WP cd_Wo_init G R lm) ∧ WP cd_Wo_init G R lm 1 = stp G R lm (77, 4, 0, 0, 0, 0, []) (WP cd_Wo_init G R lm) ∧ WP cd_Wo_init G R lm 4 = stp G R lm (2, 5, 0, 0, 0, 0, []) (WP cd_Wo_init G R lm) ∧ WP cd_Wo_init G R lm 5 = stp G R lm (75, 8, 2, 13, 0, 0, []) (WP cd_Wo_init G R lm) ∧ WP cd_Wo_init G R lm 8 = stp G R lm (37, 9, 0, 0, 0, 0, []) (WP cd_Wo_init G R lm) ∧ WP cd_Wo_init G R lm 9 = stp G R lm (90, 12, 16, 0, 0, 0, [2, 9, 560]) (WP cd_Wo_init G R lm) ∧ WP cd_Wo_init G R lm 12 = stp G R lm (61, 15, 6, 0, 0, 0, []) (WP cd_Wo_init G R lm) := ⟨WP_eq hG rfl, WP_eq hG rfl, WP_eq hG rfl, WP_eq hG rfl, WP_eq hG rfl, WP_eq hG rfl, WP_eq hG rfl⟩
set_option maxRecDepth 20000 in
theorem US_Wo_init_15 {G : GT} (hG : Gmono G) (R : RT) (lm : Nat × Nat) : WP cd_Wo_init G R lm 15 = stp G R lm (2, 16, 0, 0, 0, 0, []) (WP cd_Wo_init G R lm) ∧ WP cd_Wo_init G R lm 16 = stp G R lm (7, 18, 0, 0, nI 6, 0, []) (WP cd_Wo_init G R lm) ∧ WP cd_Wo_init G R lm 18 = stp G R lm (74, 21, 24, 0, 0, 0, []) (WP cd_Wo_init G R lm) ∧ WP cd_Wo_init G R lm 21 = stp G R lm (61, 24, 6, 1, 0, 0, []) (WP cd_Wo_init G R lm) := ⟨WP_eq hG rfl, WP_eq hG rfl, WP_eq hG rfl, WP_eq hG rfl⟩
set_option maxRecDepth 20000 in
theorem US_Wo_init_24 {G : GT} (hG : Gmono G) (R : RT) (lm : Nat × Nat) : WP cd_Wo_init G R lm 24 = stp G R lm (2, 25, 0, 0, 0, 0, []) (WP cd_Wo_init G R lm) ∧ WP cd_Wo_init G R lm 25 = stp G R lm (7, 27, 0, 0, nI 6, 0, []) (WP cd_Wo_init G R lm) ∧ WP cd_Wo_init G R lm 27 = stp G R lm (71, 29, 0, 0, 0, 0, []) (WP cd_Wo_init G R lm) ∧ WP cd_Wo_init G R lm 29 = stp G R lm (61, 32, 6, 2, 0, 0, []) (WP cd_Wo_init G R lm) := ⟨WP_eq hG rfl, WP_eq hG rfl, WP_eq hG rfl, WP_eq hG rfl⟩
set_option maxRecDepth 20000 in
theorem US_Wo_init_32 {G : GT} (hG : Gmono G) (R : RT) (lm : Nat × Nat) : WP cd_Wo_init G R lm 32 = stp G R lm (2, 33, 0, 0, 0, 0, []) (WP cd_Wo_init G R lm) ∧ WP cd_Wo_init G R lm 33 = stp G R lm (7, 35, 0, 0, nI 6, 0, []) (WP cd_Wo_init G R lm) ∧ WP cd_Wo_init G R lm 35 = stp G R lm (71, 37, 0, 0, 0, 0, []) (WP cd_Wo_init G R lm) ∧ WP cd_Wo_init G R lm 37 = stp G R lm (61, 40, 6, 3, 0, 0, []) (WP cd_Wo_init G R lm) := ⟨WP_eq hG rfl, WP_eq hG rfl, WP_eq hG rfl, WP_eq hG rfl⟩
set_option maxRecDepth 20000 in
theorem US_Wo_init_40 {G : GT} (hG : Gmono G) (R : RT) (lm : Nat × Nat) : WP cd_Wo_init G R lm 40 = stp G R lm (2, 41, 0, 0, 0, 0, []) (WP cd_Wo_init G R lm) ∧ WP cd_Wo_init G R lm 41 = stp G R lm (7, 42, 0, 0, (-1), 0, []) (WP cd_Wo_init G R lm) ∧ WP cd_Wo_init G R lm 42 = stp G R lm (59, 45, 6, 5, 0, 0, []) (WP cd_Wo_init G R lm) ∧ WP cd_Wo_init G R lm 45 = stp G R lm (2, 46, 0, 0, 0, 0, []) (WP cd_Wo_init G R lm) ∧ WP cd_Wo_init G R lm 46 = stp G R lm (7, 47, 0, 0, nI 1, 0, []) (WP cd_Wo_init G R lm) ∧ WP cd_Wo_init G R lm 47 = stp G R lm (59, 50, 6, 7, 0, 0, []) (WP cd_Wo_init G R lm) ∧ WP cd_Wo_init G R lm 50 = stp G R lm (84, 51, 0, 0, 0, 0, []) (WP cd_Wo_init G R lm) := ⟨WP_eq hG rfl, WP_eq hG rfl, WP_eq hG rfl, WP_eq hG rfl, WP_eq hG rfl, WP_eq hG rfl, WP_eq hG rfl⟩
/-- a fresh cell -/
def Frc (h H : MH) (kd n : Nat) : Prop := (hsz H = hsz h + 1 ∧ hcc H = hcc h + 1 ∧ hcu H = hcu h + n) ∧ (∀ x, x < hsz h → Kp h H x ∧ hfr H x = hfr h x) ∧ hkd H (hsz h) = kd ∧ hln H (hsz h) = n ∧ hfi H (hsz h) = (fun _ => 0) ∧ hfr H (hsz h) = (fun _ => none) ∧ hia H (hsz h) = (fun _ => 0) ∧ hra H (hsz h) = fun _ => none
theorem Frc_g (h : MH) (kd n : Nat) : Frc h (hnew h kd n) kd n := by
  have nn : ∀ x, x < hsz h → ¬ x = hsz h := fun x hx => by omega
  exact ⟨⟨rfl, rfl, rfl⟩, fun x hx => ⟨⟨up1_n _ _ (nn x hx), up1_n _ _ (nn x hx), up1_n _ _ (nn x hx), up1_n _ _ (nn x hx), up1_n _ _ (nn x hx), up1_n _ _ (nn x hx)⟩, up1_n _ _ (nn x hx)⟩, up1_s _ _ _, up1_s _ _ _, up1_s _ _ _, up1_s _ _ _, up1_s _ _ _, up1_s _ _ _⟩
def FRs (h H : MH) (q : Nat) : Prop := (hsz H = hsz h ∧ hcc H = hcc h ∧ hcu H = hcu h) ∧ (∀ x, Kp h H x) ∧ (∀ x, x ≠ q → hfr H x = hfr h x)
theorem FRs_g (h : MH) (q : Nat) (F : Nat → Option Nat) : FRs h (sFR h q F) q ∧ hfr (sFR h q F) q = F := ⟨⟨⟨rfl, rfl, rfl⟩, fun x => ⟨rfl, rfl, rfl, rfl, rfl, rfl⟩, fun x ne => up1_n (hfr h) F ne⟩, up1_s (hfr h) q F⟩
theorem NeS_k {h H : MH} {q : Nat} (k : ∀ x, q ≤ x → x ≤ q + 9 → hkd H x = hkd h x ∧ hln H x = hln h x) (f : hfr H q = hfr h q) (s : NeS h q) : NeS H q := by
  have k0 := k q (by omega) (by omega)
  have k1 := k (q + 1) (by omega) (by omega)
  have k2 := k (q + 2) (by omega) (by omega)
  have k3 := k (q + 3) (by omega) (by omega)
  have k4 := k (q + 4) (by omega) (by omega)
  have k5 := k (q + 5) (by omega) (by omega)
  have k6 := k (q + 6) (by omega) (by omega)
  have k7 := k (q + 7) (by omega) (by omega)
  have k8 := k (q + 8) (by omega) (by omega)
  have k9 := k (q + 9) (by omega) (by omega)
  unfold NeS AF at *
  rw [f, k0.1, k1.1, k1.2, k2.1, k2.2, k3.1, k3.2, k4.1, k4.2, k5.1, k5.2, k6.1, k6.2, k7.1, k7.2, k8.1, k8.2, k9.1, k9.2]
  exact s
theorem x_nw1 (d q : Nat) {h : MH} (hq : q < hsz h) (R : RT) (K : ∀ H3, AA h H3 q ([] ++ [(1, 24, 6)] ++ [(2, 20, 6)] ++ [(3, 20, 6)]) → hkd H3 q = 6 → hsz H3 = hsz h + 3 → WP cd_Wo_init (callD d) R (hcc h + 3, hcu h + 18) 40 [] [some (.ref q)] H3) (H0 : MH) (A0 : AA h H0 q []) (k0 : hkd H0 q = 6) (c0 : hcc H0 = hcc h + 0) (u0 : hcu H0 = hcu h + 0) (z0 : hsz H0 = hsz h + 0) : WP cd_Wo_init (callD d) R (hcc h + 3, hcu h + 18) 15 [] [some (.ref q)] H0 := by
  have y1 : hcc H0 + 1 ≤ hcc h + 3 := by omega
  have y2 : hcu H0 + 6 ≤ hcu h + 18 := by omega
  have lq : q < hsz H0 := by omega
  have nq : ¬ q = hsz H0 := by omega
  simp (disch := omega) only [US_Wo_init_15 (cm _), SA, SB, SC1, SC2, SG, SK, SV, k0, y1, y2, ltI, nI_clamp, nq, Nat.not_lt_zero, up1_n, Nat.reduceLeDiff, true_or, or_true, true_implies, not_true_eq_false, not_false_eq_true, false_implies, true_and, and_true]
  have S := AS_g H0 q 1 24 6 lq
  generalize sFR (hnew H0 24 6) q (up1 (hfr H0 q) 1 (some (hsz H0))) = H1 at *
  have A1 := A0.push hq S (by decide)
  have k1 : hkd H1 q = 6 := by rw [(S.2.1 q lq).1]; exact k0
  have c1 : hcc H1 = hcc h + 1 := by have := S.1.2.1; omega
  have u1 : hcu H1 = hcu h + (6) := by have := S.1.2.2; omega
  have z1 : hsz H1 = hsz h + 1 := by have := S.1.1; omega
  clear S y1 y2 lq nq
  have y1 : hcc H1 + 1 ≤ hcc h + 3 := by omega
  have y2 : hcu H1 + 6 ≤ hcu h + 18 := by omega
  have lq : q < hsz H1 := by omega
  have nq : ¬ q = hsz H1 := by omega
  simp (disch := omega) only [US_Wo_init_24 (cm _), SA, SB, SC1, SC2, SG, SK, SV, k1, y1, y2, ltI, nI_clamp, nq, Nat.not_lt_zero, up1_n, Nat.reduceLeDiff, true_or, or_true, true_implies, not_true_eq_false, not_false_eq_true, false_implies, true_and, and_true]
  have S := AS_g H1 q 2 20 6 lq
  generalize sFR (hnew H1 20 6) q (up1 (hfr H1 q) 2 (some (hsz H1))) = H2 at *
  have A2 := A1.push hq S (by decide)
  have k2 : hkd H2 q = 6 := by rw [(S.2.1 q lq).1]; exact k1
  have c2 : hcc H2 = hcc h + 2 := by have := S.1.2.1; omega
  have u2 : hcu H2 = hcu h + (12) := by have := S.1.2.2; omega
  have z2 : hsz H2 = hsz h + 2 := by have := S.1.1; omega
  clear S y1 y2 lq nq
  have y1 : hcc H2 + 1 ≤ hcc h + 3 := by omega
  have y2 : hcu H2 + 6 ≤ hcu h + 18 := by omega
  have lq : q < hsz H2 := by omega
  have nq : ¬ q = hsz H2 := by omega
  simp (disch := omega) only [US_Wo_init_32 (cm _), SA, SB, SC1, SC2, SG, SK, SV, k2, y1, y2, ltI, nI_clamp, nq, Nat.not_lt_zero, up1_n, Nat.reduceLeDiff, true_or, or_true, true_implies, not_true_eq_false, not_false_eq_true, false_implies, true_and, and_true]
  have S := AS_g H2 q 3 20 6 lq
  generalize sFR (hnew H2 20 6) q (up1 (hfr H2 q) 3 (some (hsz H2))) = H3 at *
  have A3 := A2.push hq S (by decide)
  have k3 : hkd H3 q = 6 := by rw [(S.2.1 q lq).1]; exact k2
  have c3 : hcc H3 = hcc h + 3 := by have := S.1.2.1; omega
  have u3 : hcu H3 = hcu h + (18) := by have := S.1.2.2; omega
  have z3 : hsz H3 = hsz h + 3 := by have := S.1.1; omega
  clear S y1 y2 lq nq
  exact K H3 A3 k3 z3
theorem x_newWorld (d q : Nat) {h : MH} (k6 : hkd h q = 6) (hq : q + 1 = hsz h) (h24 : 24 ≤ q) (f0 : hfi h q = fun _ => 0) (Q : RT) (K : ∀ H, Inw h H q 13 591 → WoS H q → NeS H (q + 1) → NeV H (q + 1) ini → hfi H q = up1 (up1 (fun _ => 0) 5 (-1)) 7 (nI 1) → hra H (q + 11) = (fun _ => none) → Q none H) : callD (d + 3) 73 [.ref q] h Q := by
  have hq' := hq
  replace hq : q < hsz h := by omega
  rw [E_Wo_init]
  have F1 := Frc_g h 2 13
  have nq : ¬ q = hsz h := by omega
  simp (disch := omega) only [US_Wo_init_0 (cm _), SA, SB, SC1, SC2, SG, SK, SV, k6, up1_s, Nat.add_le_add_iff_left, Nat.add_assoc, Nat.reduceAdd, Nat.reduceLeDiff, true_or, or_true, true_implies, not_true_eq_false, not_false_eq_true, false_implies, true_and, and_true]
  generalize hnew h 2 13 = h1 at *
  obtain ⟨⟨z1, c1, u1⟩, b1, e1, -, e3, e4, -⟩ := F1
  rw [← hq'] at e1 e3 e4 b1 z1 ⊢
  refine x_newNet d (q + 1) e1 (by omega) (by omega) e3 _ (fun h2 I2 S2 V2 => ?_)
  obtain ⟨⟨z2, c2, u2⟩, b2⟩ := I2
  have K2 : ∀ x, x < q + 1 → Kp h h2 x ∧ hfr h2 x = hfr h x := fun x hx => ⟨(b1 x hx).1.trans (b2 x (by omega) (by omega)).1, (b2 x (by omega) (by omega)).2.trans (b1 x hx).2⟩
  have k62 : hkd h2 q = 6 := by rw [(K2 q (by omega)).1.1]; exact k6
  obtain ⟨R3, r3⟩ := FRs_g h2 q (up1 (hfr h2 q) 0 (some (q + 1)))
  simp (disch := omega) only [US_Wo_init_0 (cm _), SA, SB, SC1, SC2, SG, SK, SV, k62, true_or, or_true, true_implies, not_true_eq_false, not_false_eq_true, false_implies, true_and, and_true]
  generalize sFR h2 q (up1 (hfr h2 q) 0 (some (q + 1))) = h3 at *
  obtain ⟨⟨z3, c3, u3⟩, b3, g3⟩ := R3
  have k63 : hkd h3 q = 6 := by rw [(b3 q).1]; exact k62
  rw [show hcc h + 13 = hcc h3 + 3 by omega, show hcu h + 591 = hcu h3 + 18 by omega]
  refine x_nw1 (d + 2) q (h := h3) (by omega) _ (fun H4 A4 k4 z4 => ?_) h3 (AA.nil h3 q) k63 rfl rfl rfl
  obtain ⟨-, w2, w3, w4, w5⟩ := A4
  have hz3 : hsz h3 = q + 11 := by omega
  have a1 := w5 0 (1, 24, 6) rfl
  have a2 := w5 1 (2, 20, 6) rfl
  have a3 := w5 2 (3, 20, 6) rfl
  have a0 : hfr H4 q 0 = some (q + 1) := by
    rw [w4 0 (by
      intro i e he
      have m := List.mem_of_getElem? he
      clear he
      revert m
      revert e
      decide), r3, up1_s]
  rw [hz3] at a1 a2 a3 w2 w3
  simp (disch := omega) only [US_Wo_init_40 (cm _), SA, SB, SC1, SC2, SG, SK, SV, k4, up1_s, true_or, or_true, true_implies, not_true_eq_false, not_false_eq_true, false_implies, true_and, and_true]
  obtain ⟨-, i2, -, i4, i5⟩ := fi_g H4 q (up1 (up1 (hfi H4 q) 5 (-1)) 7 (nI 1))
  have is := she_fi H4 q (up1 (up1 (hfi H4 q) 5 (-1)) 7 (nI 1))
  generalize sFI H4 q (up1 (up1 (hfi H4 q) 5 (-1)) 7 (nI 1)) = h5 at *
  have sc := sc_g h5 (hcc h3 + 3) (hcu h3 + 18)
  generalize sCC h5 (hcc h3 + 3) (hcu h3 + 18) = F at *
  obtain ⟨⟨sc1, sc2, sc3, sc4, sc5⟩, sc6, sc7⟩ := sc
  have SS := is.1.2.2.2.trans sc2
  have FI : ∀ a, a ≠ q → hfi F a = hfi H4 a := fun a ha => by rw [sc3]; exact i5 a ha
  have IA : hia F = hia H4 := by rw [sc4, i2]
  have KF : ∀ x, x ≠ q → Kp H4 F x := fun x hx => ⟨by rw [SS.1], by rw [SS.2.1], FI x hx, by rw [IA], by rw [sc5, is.2], by rw [SS.2.2.2]⟩
  have fq : hfi H4 q = fun _ => 0 := by rw [(w2 q (by omega)).2.2.1, (b3 q).2.2.1, (K2 q (by omega)).1.2.2.1]; exact f0
  have n1 : ∀ x, q + 1 ≤ x → x ≤ q + 10 → Kp h2 F x ∧ hfr F x = hfr h2 x := fun x x1 x2 => ⟨((b3 x).trans (w2 x (by omega))).trans (KF x (by omega)), by rw [SS.2.2.1, w3 x (by omega) (by omega), g3 x (by omega)]⟩
  refine K F ⟨⟨by rw [sc1, is.1.1]; omega, by rw [sc6]; omega, by rw [sc7]; omega⟩, fun x hx ne => ?_⟩ ?_ ?_ ?_ ?_ ?_
  · rw [← hq'] at hx
    exact ⟨(((K2 x hx).1.trans (b3 x)).trans (w2 x (by omega))).trans (KF x ne), by rw [SS.2.2.1, w3 x (by omega) ne, g3 x ne, (K2 x hx).2]⟩
  · unfold WoS
    rw [SS.1, SS.2.1, SS.2.2.1]
    exact ⟨k4, a0, a1.1, a1.2.1, a1.2.2.1, a2.1, a2.2.1, a2.2.2.1, a3.1, a3.2.1, a3.2.2.1⟩
  · exact NeS_k (fun x x1 x2 => ⟨(n1 x x1 (by omega)).1.1, (n1 x x1 (by omega)).1.2.1⟩) (n1 (q + 1) (by omega) (by omega)).2 S2
  · exact NeV_a (n1 (q + 1) (by omega) (by omega)).1.2.2.1 (fun a x1 x2 => (n1 a (by omega) (by omega)).1.2.2.2.1) V2
  · rw [sc3, i4, fq]
  · rw [SS.2.2.2]; exact a1.2.2.2.2.2
