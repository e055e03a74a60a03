/-! ===== chains ===== -/
set_option maxRecDepth 20000 in
theorem UC_Re_jointAt_100 {G : GT} (hG : Gmono G) (R : RT) (lm : Nat × Nat) : WP cd_Re_jointAt G R lm 0 = stp G R lm (1, 1, 1, 0, 0, 0, []) (WP cd_Re_jointAt G R lm) ∧ WP cd_Re_jointAt G R lm 1 = stp G R lm (55, 100, 0, 0, 0, 0, [28, 46, 64]) (WP cd_Re_jointAt G R lm) ∧ WP cd_Re_jointAt G R lm 28 = stp G R lm (2, 29, 0, 0, 0, 0, []) (WP cd_Re_jointAt G R lm) ∧ WP cd_Re_jointAt G R lm 29 = stp G R lm (58, 32, 4, 0, 0, 0, []) (WP cd_Re_jointAt G R lm) ∧ WP cd_Re_jointAt G R lm 32 = stp G R lm (10, 34, 20, 0, 0, 0, []) (WP cd_Re_jointAt G R lm) ∧ WP cd_Re_jointAt G R lm 34 = stp G R lm (86, 37, 70, 1, 0, 0, [5]) (WP cd_Re_jointAt G R lm) ∧ WP cd_Re_jointAt G R lm 37 = stp G R lm (47, 40, 44, 0, 0, 0, []) (WP cd_Re_jointAt G R lm) ∧ WP cd_Re_jointAt G R lm 40 = stp G R lm (7, 41, 0, 0, nI 4, 0, []) (WP cd_Re_jointAt G R lm) ∧ WP cd_Re_jointAt G R lm 41 = stp G R lm (40, 45, 0, 0, 0, 0, []) (WP cd_Re_jointAt G R lm) ∧ WP cd_Re_jointAt G R lm 44 = stp G R lm (7, 45, 0, 0, (-1), 0, []) (WP cd_Re_jointAt G R lm) ∧ WP cd_Re_jointAt G R lm 45 = stp G R lm (81, 46, 0, 0, 0, 0, []) (WP cd_Re_jointAt G R lm) ∧ WP cd_Re_jointAt G R lm 46 = stp G R lm (2, 47, 0, 0, 0, 0, []) (WP cd_Re_jointAt G R lm) ∧ WP cd_Re_jointAt G R lm 47 = stp G R lm (58, 50, 4, 0, 0, 0, []) (WP cd_Re_jointAt G R lm) ∧ WP cd_Re_jointAt G R lm 50 = stp G R lm (10, 52, 21, 0, 0, 0, []) (WP cd_Re_jointAt G R lm) ∧ WP cd_Re_jointAt G R lm 52 = stp G R lm (86, 55, 70, 1, 0, 0, [5]) (WP cd_Re_jointAt G R lm) ∧ WP cd_Re_jointAt G R lm 55 = stp G R lm (47, 58, 62, 0, 0, 0, []) (WP cd_Re_jointAt G R lm) ∧ WP cd_Re_jointAt G R lm 58 = stp G R lm (7, 59, 0, 0, nI 5, 0, []) (WP cd_Re_jointAt G R lm) ∧ WP cd_Re_jointAt G R lm 59 = stp G R lm (40, 63, 0, 0, 0, 0, []) (WP cd_Re_jointAt G R lm) ∧ WP cd_Re_jointAt G R lm 62 = stp G R lm (7, 63, 0, 0, (-1), 0, []) (WP cd_Re_jointAt G R lm) ∧ WP cd_Re_jointAt G R lm 63 = stp G R lm (81, 64, 0, 0, 0, 0, []) (WP cd_Re_jointAt G R lm) ∧ WP cd_Re_jointAt G R lm 64 = stp G R lm (2, 65, 0, 0, 0, 0, []) (WP cd_Re_jointAt G R lm) ∧ WP cd_Re_jointAt G R lm 65 = stp G R lm (58, 68, 4, 0, 0, 0, []) (WP cd_Re_jointAt G R lm) ∧ WP cd_Re_jointAt G R lm 68 = stp G R lm (7, 70, 0, 0, nI 43, 0, []) (WP cd_Re_jointAt G R lm) ∧ WP cd_Re_jointAt G R lm 70 = stp G R lm (86, 73, 71, 1, 0, 0, [5]) (WP cd_Re_jointAt G R lm) ∧ WP cd_Re_jointAt G R lm 73 = stp G R lm (47, 76, 81, 0, 0, 0, []) (WP cd_Re_jointAt G R lm) ∧ WP cd_Re_jointAt G R lm 76 = stp G R lm (7, 78, 0, 0, nI 6, 0, []) (WP cd_Re_jointAt G R lm) ∧ WP cd_Re_jointAt G R lm 78 = stp G R lm (40, 99, 0, 0, 0, 0, []) (WP cd_Re_jointAt G R lm) ∧ WP cd_Re_jointAt G R lm 81 = stp G R lm (2, 82, 0, 0, 0, 0, []) (WP cd_Re_jointAt G R lm) ∧ WP cd_Re_jointAt G R lm 82 = stp G R lm (58, 85, 4, 0, 0, 0, []) (WP cd_Re_jointAt G R lm) ∧ WP cd_Re_jointAt G R lm 85 = stp G R lm (7, 87, 0, 0, nI 45, 0, []) (WP cd_Re_jointAt G R lm) ∧ WP cd_Re_jointAt G R lm 87 = stp G R lm (86, 90, 71, 1, 0, 0, [5]) (WP cd_Re_jointAt G R lm) ∧ WP cd_Re_jointAt G R lm 90 = stp G R lm (47, 93, 98, 0, 0, 0, []) (WP cd_Re_jointAt G R lm) ∧ WP cd_Re_jointAt G R lm 93 = stp G R lm (7, 95, 0, 0, nI 7, 0, []) (WP cd_Re_jointAt G R lm) ∧ WP cd_Re_jointAt G R lm 95 = stp G R lm (40, 99, 0, 0, 0, 0, []) (WP cd_Re_jointAt G R lm) ∧ WP cd_Re_jointAt G R lm 98 = stp G R lm (7, 99, 0, 0, (-1), 0, []) (WP cd_Re_jointAt G R lm) ∧ WP cd_Re_jointAt G R lm 99 = stp G R lm (81, 100, 0, 0, 0, 0, []) (WP cd_Re_jointAt G R lm) ∧ WP cd_Re_jointAt G R lm 101 = stp G R lm (58, 104, 4, 0, 0, 0, []) (WP cd_Re_jointAt G R lm) ∧ WP cd_Re_jointAt G R lm 104 = stp G R lm (7, 106, 0, 0, nI 42, 0, []) (WP cd_Re_jointAt G R lm) ∧ WP cd_Re_jointAt G R lm 106 = stp G R lm (86, 109, 71, 1, 0, 0, [5]) (WP cd_Re_jointAt G R lm) ∧ WP cd_Re_jointAt G R lm 109 = stp G R lm (47, 112, 117, 0, 0, 0, []) (WP cd_Re_jointAt G R lm) ∧ WP cd_Re_jointAt G R lm 112 = stp G R lm (7, 114, 0, 0, nI 8, 0, []) (WP cd_Re_jointAt G R lm) ∧ WP cd_Re_jointAt G R lm 114 = stp G R lm (40, 152, 0, 0, 0, 0, []) (WP cd_Re_jointAt G R lm) ∧ WP cd_Re_jointAt G R lm 117 = stp G R lm (2, 118, 0, 0, 0, 0, []) (WP cd_Re_jointAt G R lm) ∧ WP cd_Re_jointAt G R lm 118 = stp G R lm (58, 121, 4, 0, 0, 0, []) (WP cd_Re_jointAt G R lm) ∧ WP cd_Re_jointAt G R lm 121 = stp G R lm (7, 123, 0, 0, nI 47, 0, []) (WP cd_Re_jointAt G R lm) ∧ WP cd_Re_jointAt G R lm 123 = stp G R lm (86, 126, 71, 1, 0, 0, [5]) (WP cd_Re_jointAt G R lm) ∧ WP cd_Re_jointAt G R lm 126 = stp G R lm (47, 129, 134, 0, 0, 0, []) (WP cd_Re_jointAt G R lm) ∧ WP cd_Re_jointAt G R lm 129 = stp G R lm (7, 131, 0, 0, nI 9, 0, []) (WP cd_Re_jointAt G R lm) ∧ WP cd_Re_jointAt G R lm 131 = stp G R lm (40, 152, 0, 0, 0, 0, []) (WP cd_Re_jointAt G R lm) ∧ WP cd_Re_jointAt G R lm 134 = stp G R lm (2, 135, 0, 0, 0, 0, []) (WP cd_Re_jointAt G R lm) ∧ WP cd_Re_jointAt G R lm 135 = stp G R lm (58, 138, 4, 0, 0, 0, []) (WP cd_Re_jointAt G R lm) ∧ WP cd_Re_jointAt G R lm 138 = stp G R lm (7, 140, 0, 0, nI 37, 0, []) (WP cd_Re_jointAt G R lm) ∧ WP cd_Re_jointAt G R lm 140 = stp G R lm (86, 143, 71, 1, 0, 0, [5]) (WP cd_Re_jointAt G R lm) ∧ WP cd_Re_jointAt G R lm 143 = stp G R lm (47, 146, 151, 0, 0, 0, []) (WP cd_Re_jointAt G R lm) ∧ WP cd_Re_jointAt G R lm 146 = stp G R lm (7, 148, 0, 0, nI 10, 0, []) (WP cd_Re_jointAt G R lm) ∧ WP cd_Re_jointAt G R lm 148 = stp G R lm (40, 152, 0, 0, 0, 0, []) (WP cd_Re_jointAt G R lm) ∧ WP cd_Re_jointAt G R lm 151 = stp G R lm (7, 152, 0, 0, (-1), 0, []) (WP cd_Re_jointAt G R lm) ∧ WP cd_Re_jointAt G R lm 152 = stp G R lm (81, 153, 0, 0, 0, 0, []) (WP cd_Re_jointAt G R lm) := ⟨WP_eq hG rfl, WP_eq hG rfl, WP_eq hG rfl, WP_eq hG rfl, WP_eq hG rfl, WP_eq hG rfl, WP_eq hG rfl, WP_eq hG rfl, WP_eq hG rfl, WP_eq hG rfl, WP_eq hG rfl, WP_eq hG rfl, WP_eq hG rfl, WP_eq hG rfl, WP_eq hG rfl, WP_eq hG rfl, WP_eq hG rfl, WP_eq hG rfl, WP_eq hG rfl, WP_eq hG rfl, WP_eq hG rfl, WP_eq hG rfl, WP_eq hG rfl, WP_eq hG rfl, WP_eq hG rfl, WP_eq hG rfl, WP_eq hG rfl, WP_eq hG rfl, WP_eq hG rfl, WP_eq hG rfl, WP_eq hG rfl, WP_eq hG rfl, WP_eq hG rfl, WP_eq hG rfl, WP_eq hG rfl, WP_eq hG rfl, WP_eq hG rfl, WP_eq hG rfl, WP_eq hG rfl, WP_eq hG rfl, WP_eq hG rfl, WP_eq hG rfl, WP_eq hG rfl, WP_eq hG rfl, WP_eq hG rfl, WP_eq hG rfl, WP_eq hG rfl, WP_eq hG rfl, WP_eq hG rfl, WP_eq hG rfl, WP_eq hG rfl, WP_eq hG rfl, WP_eq hG rfl, WP_eq hG rfl, WP_eq hG rfl, WP_eq hG rfl, WP_eq hG rfl, WP_eq hG rfl⟩
set_option maxHeartbeats 1000000 in
theorem x_jointAt (d lev q k cl : Nat) {T : TP} {om : Nat} (hl : lev < 4) {h : MH} (r : RS h T om q k cl) (Q : RT) : callD (d + 2) 57 [.ref 213, .int (nI lev)] h Q = Q (some (.int (if jnt T lev q = 0 then -1 else nI (jnt T lev q)))) h := by
  have s := r.1
  unfold XSr at s
  have W := fun x hx => x_hasWord d q x hx r.2.1
  have G := fun x hx => x_hasSign d q x hx r.2.1
  have w18 := W 18 (by omega)
  have w19 := W 19 (by omega)
  have w43 := G 43 (by omega)
  have w45 := G 45 (by omega)
  have w42 := G 42 (by omega)
  have w47 := G 47 (by omega)
  have w37 := G 37 (by omega)
  rw [E_Re_jointAt]
  unfold jnt
  rcases (show lev = 0 ∨ lev = 1 ∨ lev = 2 ∨ lev = 3 by omega) with rfl | rfl | rfl | rfl
  · simp only [UC_Re_jointAt_100 (cm _), SA, SB]
    rw [tsw_hit 0 (by decide) (by decide)]
    simp only [List.getD_cons_zero, List.getD_cons_succ, if_true, if_false]
    by_cases c18 : bW T q 18 = true
    · simp only [c18, b2_t] at w18
      simp only [c18, if_true, if_false, Bool.false_eq_true]
      simp (disch := omega) only [U_Re_jointAt (cm _), SA, SB, SC1, SC2, SG, SV, s, w18, eqI, Nat.one_ne_zero, if_true, if_false, Bool.false_eq_true, Nat.reduceEqDiff, true_or, or_true, true_implies, not_true_eq_false, not_false_eq_true, false_implies, true_and, and_true]
    have f18 : bW T q 18 = false := Bool.eq_false_iff.mpr c18
    simp only [f18, b2_f] at w18
    simp only [f18, if_true, if_false, Bool.false_eq_true]
    simp (disch := omega) only [U_Re_jointAt (cm _), SA, SB, SC1, SC2, SG, SV, s, w18, eqI, Nat.one_ne_zero, if_true, if_false, Bool.false_eq_true, Nat.reduceEqDiff, true_or, or_true, true_implies, not_true_eq_false, not_false_eq_true, false_implies, true_and, and_true]
  · simp only [UC_Re_jointAt_100 (cm _), SA, SB]
    rw [tsw_hit 1 (by decide) (by decide)]
    simp only [List.getD_cons_zero, List.getD_cons_succ, Nat.one_ne_zero, if_true, if_false]
    by_cases c19 : bW T q 19 = true
    · simp only [c19, b2_t] at w19
      simp only [c19, if_true, if_false, Bool.false_eq_true]
      simp (disch := omega) only [U_Re_jointAt (cm _), SA, SB, SC1, SC2, SG, SV, s, w19, eqI, Nat.one_ne_zero, if_true, if_false, Bool.false_eq_true, Nat.reduceEqDiff, true_or, or_true, true_implies, not_true_eq_false, not_false_eq_true, false_implies, true_and, and_true]
    have f19 : bW T q 19 = false := Bool.eq_false_iff.mpr c19
    simp only [f19, b2_f] at w19
    simp only [f19, if_true, if_false, Bool.false_eq_true]
    simp (disch := omega) only [U_Re_jointAt (cm _), SA, SB, SC1, SC2, SG, SV, s, w19, eqI, Nat.one_ne_zero, if_true, if_false, Bool.false_eq_true, Nat.reduceEqDiff, true_or, or_true, true_implies, not_true_eq_false, not_false_eq_true, false_implies, true_and, and_true]
  · simp only [UC_Re_jointAt_100 (cm _), SA, SB]
    rw [tsw_hit 2 (by decide) (by decide)]
    simp only [List.getD_cons_zero, List.getD_cons_succ, Nat.reduceEqDiff, if_true, if_false]
    by_cases c43 : bG T q 43 = true
    · simp only [c43, b2_t] at w43
      simp only [c43, if_true, if_false, Bool.false_eq_true]
      simp (disch := omega) only [U_Re_jointAt (cm _), SA, SB, SC1, SC2, SG, SV, s, w43, eqI, Nat.one_ne_zero, if_true, if_false, Bool.false_eq_true, Nat.reduceEqDiff, true_or, or_true, true_implies, not_true_eq_false, not_false_eq_true, false_implies, true_and, and_true]
    have f43 : bG T q 43 = false := Bool.eq_false_iff.mpr c43
    simp only [f43, b2_f] at w43
    by_cases c45 : bG T q 45 = true
    · simp only [c45, b2_t] at w45
      simp only [f43, c45, if_true, if_false, Bool.false_eq_true]
      simp (disch := omega) only [U_Re_jointAt (cm _), SA, SB, SC1, SC2, SG, SV, s, w43, w45, eqI, Nat.one_ne_zero, if_true, if_false, Bool.false_eq_true, Nat.reduceEqDiff, true_or, or_true, true_implies, not_true_eq_false, not_false_eq_true, false_implies, true_and, and_true]
    have f45 : bG T q 45 = false := Bool.eq_false_iff.mpr c45
    simp only [f45, b2_f] at w45
    simp only [f43, f45, if_true, if_false, Bool.false_eq_true]
    simp (disch := omega) only [U_Re_jointAt (cm _), SA, SB, SC1, SC2, SG, SV, s, w43, w45, eqI, Nat.one_ne_zero, if_true, if_false, Bool.false_eq_true, Nat.reduceEqDiff, true_or, or_true, true_implies, not_true_eq_false, not_false_eq_true, false_implies, true_and, and_true]
  · simp only [UC_Re_jointAt_100 (cm _), SA, SB]
    rw [tsw_miss (Or.inr (by decide))]
    simp only [Nat.reduceEqDiff, if_true, if_false]
    by_cases c42 : bG T q 42 = true
    · simp only [c42, b2_t] at w42
      simp only [c42, if_true, if_false, Bool.false_eq_true]
      simp (disch := omega) only [U_Re_jointAt (cm _), SA, SB, SC1, SC2, SG, SV, s, w42, eqI, Nat.one_ne_zero, if_true, if_false, Bool.false_eq_true, Nat.reduceEqDiff, true_or, or_true, true_implies, not_true_eq_false, not_false_eq_true, false_implies, true_and, and_true]
    have f42 : bG T q 42 = false := Bool.eq_false_iff.mpr c42
    simp only [f42, b2_f] at w42
    by_cases c47 : bG T q 47 = true
    · simp only [c47, b2_t] at w47
      simp only [f42, c47, if_true, if_false, Bool.false_eq_true]
      simp (disch := omega) only [U_Re_jointAt (cm _), SA, SB, SC1, SC2, SG, SV, s, w42, w47, eqI, Nat.one_ne_zero, if_true, if_false, Bool.false_eq_true, Nat.reduceEqDiff, true_or, or_true, true_implies, not_true_eq_false, not_false_eq_true, false_implies, true_and, and_true]
    have f47 : bG T q 47 = false := Bool.eq_false_iff.mpr c47
    simp only [f47, b2_f] at w47
    by_cases c37 : bG T q 37 = true
    · simp only [c37, b2_t] at w37
      simp only [f42, f47, c37, if_true, if_false, Bool.false_eq_true]
      simp (disch := omega) only [U_Re_jointAt (cm _), SA, SB, SC1, SC2, SG, SV, s, w42, w47, w37, eqI, Nat.one_ne_zero, if_true, if_false, Bool.false_eq_true, Nat.reduceEqDiff, true_or, or_true, true_implies, not_true_eq_false, not_false_eq_true, false_implies, true_and, and_true]
    have f37 : bG T q 37 = false := Bool.eq_false_iff.mpr c37
    simp only [f37, b2_f] at w37
    simp only [f42, f47, f37, if_true, if_false, Bool.false_eq_true]
    simp (disch := omega) only [U_Re_jointAt (cm _), SA, SB, SC1, SC2, SG, SV, s, w42, w47, w37, eqI, Nat.one_ne_zero, if_true, if_false, Bool.false_eq_true, Nat.reduceEqDiff, true_or, or_true, true_implies, not_true_eq_false, not_false_eq_true, false_implies, true_and, and_true]
