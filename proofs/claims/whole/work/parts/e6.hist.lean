/-! ===== a history is made ===== -/
def HiL (g H : MH) (i : Nat) : Prop := (hsz H = 43 + 10 * i ∧ hcc H = hcc g + 10 * i ∧ hcu H = hcu g + 573 * i) ∧ (∀ x, x < 43 → x ≠ 41 → Kp g H x) ∧ (∀ x, x < 43 → hfr H x = hfr g x) ∧ hkd H 41 = 23 ∧ hln H 41 = 17 ∧ ∀ j, j < i → NeS H (43 + 10 * j) ∧ hra H 41 j = some (43 + 10 * j)
set_option maxRecDepth 20000 in
theorem ar573 {a b c e i : Nat} (h1 : b = a + 573 * i) (h2 : c = b + 13) (h3 : e = c + 560) : e = a + 573 * (i + 1) := by omega
theorem x_l_hi (d : Nat) {g : MH} (R : RT) (k40 : hkd g 40 = 0) (f40 : hfr g 40 0 = some 41) (K : ∀ H, HiL g H 17 → R none H) : ∀ (m i : Nat) (H : MH), i + m = 17 → HiL g H i → WP cd_Hi_init (callD (d + 2)) R (hcc g + 170, hcu g + 9741) 23 [] [some (.ref 40), some (.int (nI i))] H
  | 0, i, H, e, L => by
    have e17 : i = 17 := by omega
    subst e17
    have Y := K H L
    rw [U_Hi_init_23 (cm _)]
    simp (disch := omega) only [US_Hi_init_24 (cm _), SA, SB, SC1, SC2, SG, SK, SV, leI, Nat.le_refl, true_or, or_true, true_implies, not_true_eq_false, not_false_eq_true, false_implies, true_and, and_true]
    exact Y
  | m + 1, i, H, e, L => by
    obtain ⟨⟨l1, l2, l3⟩, l4, l5, l6, l7, l8⟩ := L
    have k0 : hkd H 40 = 0 := by rw [(l4 40 (by omega) (by omega)).1]; exact k40
    have f0 : hfr H 40 0 = some 41 := by rw [l5 40 (by omega)]; exact f40
    have F1 := Frc_g H 2 13
    have n40 : ¬ 40 = hsz H := by omega
    have n41 : ¬ 41 = hsz H := by omega
    have y1 : hcc H + 1 ≤ hcc g + 170 := by omega
    have y2 : hcu H + 13 ≤ hcu g + 9741 := by omega
    have y3 : hcc H + 1 + 9 ≤ hcc g + 170 := by omega
    have y4 : hcu H + 13 + 560 ≤ hcu g + 9741 := by omega
    rw [U_Hi_init_23 (cm _)]
    simp (disch := omega) only [US_Hi_init_24 (cm _), SA, SB, SC1, SC2, SG, SK, SV, k0, f0, y1, y2, y3, y4, leI, show ¬ 17 ≤ i by omega, up1_s, up1_n, true_or, or_true, true_implies, not_true_eq_false, not_false_eq_true, false_implies, true_and, and_true]
    generalize hnew H 2 13 = h1 at *
    obtain ⟨⟨z1, c1, u1⟩, b1, e1, -, e3, e4, -⟩ := F1
    rw [l1] at e1 e3 e4 b1 z1 ⊢
    refine x_newNet d (43 + 10 * i) e1 (by omega) (by omega) e3 _ (fun h2 I2 S2 V2 => ?_)
    clear V2
    obtain ⟨⟨z2, c2, u2⟩, b2⟩ := I2
    rw [z1] at b2
    have K2 : ∀ x, x < 43 + 10 * i → Kp H h2 x ∧ hfr h2 x = hfr H x := fun x hx => ⟨(b1 x hx).1.trans (b2 x (by omega) (by omega)).1, (b2 x (by omega) (by omega)).2.trans (b1 x hx).2⟩
    have k41 : hkd h2 41 = 23 := by rw [(K2 41 (by omega)).1.1]; exact l6
    have l41 : hln h2 41 = 17 := by rw [(K2 41 (by omega)).1.2.1]; exact l7
    have kn : hkd h2 (43 + 10 * i) = 2 := S2.1
    have q2 : rkd 23 = 2 := rfl
    obtain ⟨r1, r2, r3, r4, r5⟩ := ra_g h2 41 (up1 (hra h2 41) i (some (43 + 10 * i)))
    simp (disch := omega) only [US_Hi_init_24 (cm _), SA, SB, SC1, SC2, SG, SK, SV, k41, l41, kn, q2, nI_clamp, in_eq, nI_add, Nat.reduceLeDiff, true_or, or_true, true_implies, not_true_eq_false, not_false_eq_true, false_implies, true_and, and_true]
    generalize sRA h2 41 (up1 (hra h2 41) i (some (43 + 10 * i))) = h3 at *
    refine x_l_hi d R k40 f40 K m (i + 1) h3 (by omega) ⟨⟨r1.1.trans (by omega), r1.2.1.trans (by omega), r1.2.2.1.trans (ar573 l3 u1 u2)⟩, fun x hx ne => ?_, fun x hx => ?_, by rw [r1.2.2.2.1]; exact k41, by rw [r1.2.2.2.2.1]; exact l41, fun j hj => ?_⟩
    · have a := (l4 x hx ne).trans (K2 x (by omega)).1
      exact a.trans ⟨by rw [r1.2.2.2.1], by rw [r1.2.2.2.2.1], by rw [r2], by rw [r3], by rw [r1.2.2.2.2.2.2], r5 x ne⟩
    · rw [r1.2.2.2.2.2.1, (K2 x (by omega)).2, l5 x hx]
    · have SH : ∀ q, NeS h2 q → NeS h3 q := fun q s => NeS_k (fun x _ _ => ⟨by rw [r1.2.2.2.1], by rw [r1.2.2.2.2.1]⟩) (by rw [r1.2.2.2.2.2.1]) s
      by_cases c : j = i
      · subst c
        exact ⟨SH _ S2, by rw [r4, up1_s]⟩
      · obtain ⟨s1, s2⟩ := l8 j (by omega)
        exact ⟨SH _ (NeS_k (fun x _ _ => ⟨(K2 x (by omega)).1.1, (K2 x (by omega)).1.2.1⟩) (K2 _ (by omega)).2 s1), by rw [r4, up1_n _ _ c, (K2 41 (by omega)).1.2.2.2.2.2]; exact s2⟩
theorem x_nh1 (d : Nat) {h : MH} (hq : 40 < hsz h) (R : RT) (K : ∀ H2, AA h H2 40 ([] ++ [(0, 23, 17)] ++ [(1, 20, 17)]) → hkd H2 40 = 0 → hcc H2 = hcc h + 2 → hcu H2 = hcu h + 34 → WP cd_Hi_init (callD d) R (hcc h + 172, hcu h + 9775) 21 [] [some (.ref 40), none] H2) (H0 : MH) (A0 : AA h H0 40 []) (k0 : hkd H0 40 = 0) (c0 : hcc H0 = hcc h + 0) (u0 : hcu H0 = hcu h + 0) (z0 : hsz H0 = hsz h + 0) : WP cd_Hi_init (callD d) R (hcc h + 172, hcu h + 9775) 0 [] [some (.ref 40), none] H0 := by
  have y1 : hcc H0 + 1 ≤ hcc h + 172 := by omega
  have y2 : hcu H0 + 17 ≤ hcu h + 9775 := by omega
  have lq : 40 < hsz H0 := by omega
  have nq : ¬ 40 = hsz H0 := by omega
  simp (disch := omega) only [US_Hi_init_0 (cm _), SA, SB, SC1, SC2, SG, SK, SV, k0, y1, y2, ltI, nI_clamp, nq, Nat.not_lt_zero, up1_n, Nat.reduceLeDiff, true_or, or_true, true_implies, not_true_eq_false, not_false_eq_true, false_implies, true_and, and_true]
  have S := AS_g H0 40 0 23 17 lq
  generalize sFR (hnew H0 23 17) 40 (up1 (hfr H0 40) 0 (some (hsz H0))) = H1 at *
  have A1 := A0.push hq S (by decide)
  have k1 : hkd H1 40 = 0 := by rw [(S.2.1 40 lq).1]; exact k0
  have c1 : hcc H1 = hcc h + 1 := by have := S.1.2.1; omega
  have u1 : hcu H1 = hcu h + (17) := by have := S.1.2.2; omega
  have z1 : hsz H1 = hsz h + 1 := by have := S.1.1; omega
  clear S y1 y2 lq nq
  have y1 : hcc H1 + 1 ≤ hcc h + 172 := by omega
  have y2 : hcu H1 + 17 ≤ hcu h + 9775 := by omega
  have lq : 40 < hsz H1 := by omega
  have nq : ¬ 40 = hsz H1 := by omega
  simp (disch := omega) only [US_Hi_init_13 (cm _), SA, SB, SC1, SC2, SG, SK, SV, k1, y1, y2, ltI, nI_clamp, nq, Nat.not_lt_zero, up1_n, Nat.reduceLeDiff, true_or, or_true, true_implies, not_true_eq_false, not_false_eq_true, false_implies, true_and, and_true]
  have S := AS_g H1 40 1 20 17 lq
  generalize sFR (hnew H1 20 17) 40 (up1 (hfr H1 40) 1 (some (hsz H1))) = H2 at *
  have A2 := A1.push hq S (by decide)
  have k2 : hkd H2 40 = 0 := by rw [(S.2.1 40 lq).1]; exact k1
  have c2 : hcc H2 = hcc h + 2 := by have := S.1.2.1; omega
  have u2 : hcu H2 = hcu h + (34) := by have := S.1.2.2; omega
  have z2 : hsz H2 = hsz h + 2 := by have := S.1.1; omega
  clear S y1 y2 lq nq
  exact K H2 A2 k2 c2 u2
theorem x_newHist (d : Nat) {h : MH} (k0 : hkd h 40 = 0) (hz : hsz h = 41) (f0 : hfi h 40 = fun _ => 0) (Q : RT) (K : ∀ F, Inq h F 40 172 9775 → XSh F → (∀ i, i < 17 → NeS F (43 + 10 * i) ∧ hra F 41 i = some (43 + 10 * i)) → hfi F 40 = (fun _ => 0) → Q none F) : callD (d + 3) 0 [.ref 40] h Q := by
  rw [E_Hi_init]
  refine x_nh1 (d + 2) (by omega) _ (fun g A kg cg ug => ?_) h (AA.nil h 40) k0 rfl rfl rfl
  obtain ⟨w1, w2, w3, w4, w5⟩ := A
  have a1 := w5 0 (0, 23, 17) rfl
  have a2 := w5 1 (1, 20, 17) rfl
  rw [hz] at a1 a2
  have w1 : hsz g = 43 := by rw [w1, hz]; rfl
  rw [show hcc h + 172 = hcc g + 170 by omega, show hcu h + 9775 = hcu g + 9741 by omega]
  simp (disch := omega) only [US_Hi_init_21 (cm _), SA, SB, SC1, SC2, SG, SK, SV, true_or, or_true, true_implies, not_true_eq_false, not_false_eq_true, false_implies, true_and, and_true]
  refine x_l_hi d _ kg a1.1 (fun H L => ?_) 17 0 g (by omega) ⟨⟨w1, rfl, rfl⟩, fun x _ _ => Kp.refl g x, fun _ _ => rfl, a1.2.1, a1.2.2.1, fun j hj => absurd hj (Nat.not_lt_zero j)⟩
  obtain ⟨⟨l1, l2, l3⟩, l4, l5, l6, l7, l8⟩ := L
  have sc := sc_g H (hcc g + 170) (hcu g + 9741)
  generalize sCC H (hcc g + 170) (hcu g + 9741) = F at *
  obtain ⟨⟨sc1, sc2, sc3, sc4, sc5⟩, sc6, sc7⟩ := sc
  have KF : ∀ x, Kp H F x := fun x => ⟨by rw [sc2.1], by rw [sc2.2.1], by rw [sc3], by rw [sc4], by rw [sc5], by rw [sc2.2.2.2]⟩
  refine K F ⟨⟨by omega, by omega, by omega⟩, fun x hx ne => ?_⟩ ⟨?_, ?_, ?_, ?_, ?_, ?_, ?_⟩ (fun i hi => ⟨NeS_e sc2 (l8 i hi).1, by rw [sc2.2.2.2]; exact (l8 i hi).2⟩) ?_
  · rw [hz] at hx
    exact ⟨((w2 x (by omega)).trans (l4 x (by omega) (by omega))).trans (KF x), by rw [sc2.2.2.1, l5 x (by omega), w3 x (by omega) ne]⟩
  · rw [(KF 40).1, (l4 40 (by omega) (by omega)).1]; exact kg
  · rw [sc2.2.2.1, l5 40 (by omega)]; exact a1.1
  · rw [(KF 41).1]; exact l6
  · rw [(KF 41).2.1]; exact l7
  · rw [sc2.2.2.1, l5 40 (by omega)]; exact a2.1
  · rw [(KF 42).1, (l4 42 (by omega) (by omega)).1]; exact a2.2.1
  · rw [(KF 42).2.1, (l4 42 (by omega) (by omega)).2.1]; exact a2.2.2.1
  · rw [(KF 40).2.2.1, (l4 40 (by omega) (by omega)).2.2.1, (w2 40 (by omega)).2.2.1]; exact f0
