/-! ===== comparisons, plain tests, parts ===== -/
set_option maxRecDepth 20000 in
theorem UC_Re_readsComparison_63 {G : GT} (hG : Gmono G) (R : RT) (lm : Nat × Nat) : WP cd_Re_readsComparison G R lm 0 = stp G R lm (2, 1, 0, 0, 0, 0, []) (WP cd_Re_readsComparison G R lm) ∧ WP cd_Re_readsComparison G R lm 1 = stp G R lm (7, 2, 0, 0, nI 2, 0, []) (WP cd_Re_readsComparison G R lm) ∧ WP cd_Re_readsComparison G R lm 2 = stp G R lm (1, 3, 1, 0, 0, 0, []) (WP cd_Re_readsComparison G R lm) ∧ WP cd_Re_readsComparison G R lm 3 = stp G R lm (86, 6, 56, 2, 0, 0, [4]) (WP cd_Re_readsComparison G R lm) ∧ WP cd_Re_readsComparison G R lm 6 = stp G R lm (48, 9, 11, 0, 0, 0, []) (WP cd_Re_readsComparison G R lm) ∧ WP cd_Re_readsComparison G R lm 9 = stp G R lm (7, 10, 0, 0, nI 0, 0, []) (WP cd_Re_readsComparison G R lm) ∧ WP cd_Re_readsComparison G R lm 10 = stp G R lm (81, 11, 1, 0, 0, 0, []) (WP cd_Re_readsComparison G R lm) ∧ WP cd_Re_readsComparison G R lm 11 = stp G R lm (2, 12, 0, 0, 0, 0, []) (WP cd_Re_readsComparison G R lm) ∧ WP cd_Re_readsComparison G R lm 12 = stp G R lm (58, 15, 4, 0, 0, 0, []) (WP cd_Re_readsComparison G R lm) ∧ WP cd_Re_readsComparison G R lm 15 = stp G R lm (7, 17, 0, 0, nI 60, 0, []) (WP cd_Re_readsComparison G R lm) ∧ WP cd_Re_readsComparison G R lm 17 = stp G R lm (86, 20, 71, 1, 0, 0, [5]) (WP cd_Re_readsComparison G R lm) ∧ WP cd_Re_readsComparison G R lm 20 = stp G R lm (47, 23, 28, 0, 0, 0, []) (WP cd_Re_readsComparison G R lm) ∧ WP cd_Re_readsComparison G R lm 23 = stp G R lm (7, 25, 0, 0, nI 11, 0, []) (WP cd_Re_readsComparison G R lm) ∧ WP cd_Re_readsComparison G R lm 25 = stp G R lm (40, 63, 0, 0, 0, 0, []) (WP cd_Re_readsComparison G R lm) ∧ WP cd_Re_readsComparison G R lm 28 = stp G R lm (2, 29, 0, 0, 0, 0, []) (WP cd_Re_readsComparison G R lm) ∧ WP cd_Re_readsComparison G R lm 29 = stp G R lm (58, 32, 4, 0, 0, 0, []) (WP cd_Re_readsComparison G R lm) ∧ WP cd_Re_readsComparison G R lm 32 = stp G R lm (7, 34, 0, 0, nI 62, 0, []) (WP cd_Re_readsComparison G R lm) ∧ WP cd_Re_readsComparison G R lm 34 = stp G R lm (86, 37, 71, 1, 0, 0, [5]) (WP cd_Re_readsComparison G R lm) ∧ WP cd_Re_readsComparison G R lm 37 = stp G R lm (47, 40, 45, 0, 0, 0, []) (WP cd_Re_readsComparison G R lm) ∧ WP cd_Re_readsComparison G R lm 40 = stp G R lm (7, 42, 0, 0, nI 12, 0, []) (WP cd_Re_readsComparison G R lm) ∧ WP cd_Re_readsComparison G R lm 42 = stp G R lm (40, 63, 0, 0, 0, 0, []) (WP cd_Re_readsComparison G R lm) ∧ WP cd_Re_readsComparison G R lm 45 = stp G R lm (2, 46, 0, 0, 0, 0, []) (WP cd_Re_readsComparison G R lm) ∧ WP cd_Re_readsComparison G R lm 46 = stp G R lm (58, 49, 4, 0, 0, 0, []) (WP cd_Re_readsComparison G R lm) ∧ WP cd_Re_readsComparison G R lm 49 = stp G R lm (7, 51, 0, 0, nI 61, 0, []) (WP cd_Re_readsComparison G R lm) ∧ WP cd_Re_readsComparison G R lm 51 = stp G R lm (86, 54, 71, 1, 0, 0, [5]) (WP cd_Re_readsComparison G R lm) ∧ WP cd_Re_readsComparison G R lm 54 = stp G R lm (47, 57, 62, 0, 0, 0, []) (WP cd_Re_readsComparison G R lm) ∧ WP cd_Re_readsComparison G R lm 57 = stp G R lm (7, 59, 0, 0, nI 13, 0, []) (WP cd_Re_readsComparison G R lm) ∧ WP cd_Re_readsComparison G R lm 59 = stp G R lm (40, 63, 0, 0, 0, 0, []) (WP cd_Re_readsComparison G R lm) ∧ WP cd_Re_readsComparison G R lm 62 = stp G R lm (7, 63, 0, 0, (-1), 0, []) (WP cd_Re_readsComparison G R lm) ∧ WP cd_Re_readsComparison G R lm 64 = stp G R lm (1, 65, 2, 0, 0, 0, []) (WP cd_Re_readsComparison G R lm) ∧ WP cd_Re_readsComparison G R lm 65 = stp G R lm (7, 66, 0, 0, (-1), 0, []) (WP cd_Re_readsComparison G R lm) ∧ WP cd_Re_readsComparison G R lm 66 = stp G R lm (42, 69, 74, 0, 0, 0, []) (WP cd_Re_readsComparison G R lm) ∧ WP cd_Re_readsComparison G R lm 69 = stp G R lm (2, 70, 0, 0, 0, 0, []) (WP cd_Re_readsComparison G R lm) ∧ WP cd_Re_readsComparison G R lm 70 = stp G R lm (86, 73, 47, 0, 0, 0, [4]) (WP cd_Re_readsComparison G R lm) ∧ WP cd_Re_readsComparison G R lm 73 = stp G R lm (81, 74, 1, 0, 0, 0, []) (WP cd_Re_readsComparison G R lm) ∧ WP cd_Re_readsComparison G R lm 74 = stp G R lm (2, 75, 0, 0, 0, 0, []) (WP cd_Re_readsComparison G R lm) ∧ WP cd_Re_readsComparison G R lm 75 = stp G R lm (58, 78, 4, 0, 0, 0, []) (WP cd_Re_readsComparison G R lm) ∧ WP cd_Re_readsComparison G R lm 78 = stp G R lm (86, 81, 67, 0, 0, 0, [5]) (WP cd_Re_readsComparison G R lm) ∧ WP cd_Re_readsComparison G R lm 81 = stp G R lm (2, 82, 0, 0, 0, 0, []) (WP cd_Re_readsComparison G R lm) ∧ WP cd_Re_readsComparison G R lm 82 = stp G R lm (7, 83, 0, 0, nI 2, 0, []) (WP cd_Re_readsComparison G R lm) ∧ WP cd_Re_readsComparison G R lm 83 = stp G R lm (1, 84, 1, 0, 0, 0, []) (WP cd_Re_readsComparison G R lm) ∧ WP cd_Re_readsComparison G R lm 84 = stp G R lm (86, 87, 56, 2, 0, 0, [4]) (WP cd_Re_readsComparison G R lm) ∧ WP cd_Re_readsComparison G R lm 87 = stp G R lm (4, 88, 3, 0, 0, 0, []) (WP cd_Re_readsComparison G R lm) ∧ WP cd_Re_readsComparison G R lm 88 = stp G R lm (2, 89, 0, 0, 0, 0, []) (WP cd_Re_readsComparison G R lm) ∧ WP cd_Re_readsComparison G R lm 89 = stp G R lm (1, 90, 2, 0, 0, 0, []) (WP cd_Re_readsComparison G R lm) ∧ WP cd_Re_readsComparison G R lm 90 = stp G R lm (7, 91, 0, 0, nI 0, 0, []) (WP cd_Re_readsComparison G R lm) ∧ WP cd_Re_readsComparison G R lm 91 = stp G R lm (86, 94, 50, 2, 0, 0, [4]) (WP cd_Re_readsComparison G R lm) ∧ WP cd_Re_readsComparison G R lm 94 = stp G R lm (1, 95, 3, 0, 0, 0, []) (WP cd_Re_readsComparison G R lm) ∧ WP cd_Re_readsComparison G R lm 95 = stp G R lm (81, 96, 1, 0, 0, 0, []) (WP cd_Re_readsComparison G R lm) := ⟨WP_eq hG rfl, WP_eq hG rfl, WP_eq hG rfl, WP_eq hG rfl, WP_eq hG rfl, WP_eq hG rfl, WP_eq hG rfl, WP_eq hG rfl, WP_eq hG rfl, WP_eq hG rfl, WP_eq hG rfl, WP_eq hG rfl, WP_eq hG rfl, WP_eq hG rfl, WP_eq hG rfl, WP_eq hG rfl, WP_eq hG rfl, WP_eq hG rfl, WP_eq hG rfl, WP_eq hG rfl, WP_eq hG rfl, WP_eq hG rfl, WP_eq hG rfl, WP_eq hG rfl, WP_eq hG rfl, WP_eq hG rfl, WP_eq hG rfl, WP_eq hG rfl, WP_eq hG rfl, WP_eq hG rfl, WP_eq hG rfl, WP_eq hG rfl, WP_eq hG rfl, WP_eq hG rfl, WP_eq hG rfl, WP_eq hG rfl, WP_eq hG rfl, WP_eq hG rfl, WP_eq hG rfl, WP_eq hG rfl, WP_eq hG rfl, WP_eq hG rfl, WP_eq hG rfl, WP_eq hG rfl, WP_eq hG rfl, WP_eq hG rfl, WP_eq hG rfl, WP_eq hG rfl, WP_eq hG rfl⟩
set_option maxHeartbeats 1000000 in
theorem x_comparison (n d op q k cl : Nat) {T : TP} {om : Nat} (HP : HPx T om n) (hop : op ≤ 8) (hn : 4 * (8 - op) + 2 ≤ n) (hk : k ≤ 50) {h : MH} (r : RS h T om q k cl) (hc : cl + T.2 < 448 + q) (Q : RT) (kk : XOK h T om q cl (4 + 2 * (8 - op)) (pCm T (pCh T om n) op q k) Q) : callD (d + 4 * n + 5) 59 [.ref 213, .int (nI op)] h Q := by
  have s := r.1
  unfold XSr at s
  rw [E_Re_readsComparison]
  unfold pCm at kk
  simp (disch := omega) only [UC_Re_readsComparison_63 (cm _), SA, SB, SC1, SC2, SG, SV, s, true_and]
  refine HP d 2 op q k cl _ _ (by omega) hop (by omega) hk r hc ?_
  unfold XOK
  cases hr : pCh T om n 2 op q k with
  | error f =>
    rw [hr] at kk
    intro h' F6
    have K := kk h' F6
    simp (disch := omega) only [UC_Re_readsComparison_63 (cm _), SA, SB, SV, true_or, or_true, true_implies, not_true_eq_false, not_false_eq_true, false_implies, true_and, and_true]
    exact K
  | ok w =>
    obtain ⟨v1, q1, k1⟩ := w
    rw [hr] at kk
    simp only at kk ⊢
    intro h1 cl1 F1 r1 e61 c1 c2 c3 c4
    rw [dD_2] at c4
    have s1 := r1.1
    unfold XSr at s1
    have G1 := x_hasSign (d + 4 * n + 3) q1 60 (by omega) r1.2.1
    have G2 := x_hasSign (d + 4 * n + 3) q1 62 (by omega) r1.2.1
    have G3 := x_hasSign (d + 4 * n + 3) q1 61 (by omega) r1.2.1
    have hq1 := r1.2.1.2.2.1
    -- behind the look at the sign
    have T63 : ∀ lm, (cmpAt T q1 = 0 → WP cd_Re_readsComparison (callD (d + 4 * n + 4)) Q lm 63 [.int (-1)] [some (.ref 213), some (.int (nI op)), none, none] h1) ∧ (cmpAt T q1 ≠ 0 → WP cd_Re_readsComparison (callD (d + 4 * n + 4)) Q lm 63 [.int (nI (cmpAt T q1))] [some (.ref 213), some (.int (nI op)), none, none] h1) := fun lm => by
      constructor
      · intro z
        rw [if_pos z] at kk
        have K := kk (flH h1) ((ER_fl r1 (by omega)).pre F1)
        have F := r_fails (d + 4 * n + 3) r1
        simp (disch := omega) only [U_Re_readsComparison (cm _), SA, SB, SC1, SC2, SG, SV, s1, F, true_or, or_true, true_implies, not_true_eq_false, not_false_eq_true, false_implies, true_and, and_true]
        exact K
      · intro z
        rw [if_neg z] at kk
        obtain ⟨z1, z2, z3⟩ := x_cmpAt z
        obtain ⟨b1, b2'⟩ := q_adv hq1 z3
        have zn : ¬ nI (cmpAt T q1) = -1 := by rw [nI_m1 (by omega)]; exact id
        have A := r_adv (d + 4 * n + 2) r1
        have ra := RS_av r1
        have k4 : hkd (avH h1 T q1) 213 = 4 := s1.1
        simp (disch := omega) only [U_Re_readsComparison (cm _), SA, SB, SC1, SC2, SG, SV, s1, k4, A, zn, true_or, or_true, true_implies, not_true_eq_false, not_false_eq_true, false_implies, true_and, and_true]
        refine HP d 2 op (tBe T q1) k1 cl1 _ _ (by omega) hop (by omega) ((kCh T om n 2 op q k _ _ _ hr).1 hk) ra (by omega) ?_
        unfold XOK
        cases hr2 : pCh T om n 2 op (tBe T q1) k1 with
        | error f =>
          rw [hr2] at kk
          intro h' F6
          simp (disch := omega) only [U_Re_readsComparison (cm _), SA, SB, SC1, SC2, SG, SV]
          have k4' : hkd h' 213 = 4 := by rw [F6.1.1.2.2.2.1.1]; exact s1.1
          simp (disch := omega) only [k4', true_and]
          refine r_emitsE (d + 4 * n + 3) (cmpAt T q1) 0 f (by omega) (by omega) ra.1 F6 _ (fun h'' F7 => ?_)
          have K := kk h'' ((F7.pre (RF_av h1 T q1)).pre F1)
          simp (disch := omega) only [U_Re_readsComparison (cm _), SA, SB, SC1, SC2, SG, SV, true_or, true_implies, true_and]
          exact K
        | ok w2 =>
          obtain ⟨v2, q2, k2⟩ := w2
          rw [hr2] at kk
          simp only at kk ⊢
          intro h2 cl2 F2 r2 e62 d1 d2 d3 d4
          rw [dD_2] at d4
          have s2 := r2.1
          unfold XSr at s2
          have hq2 := r2.2.1.2.2.1
          have E := r_emits (d + 4 * n + 3) 0 om q2 k2 cl2 (cmpAt T q1) 0 (by omega) (by omega) (by omega) r2
          have K := kk (emF h2 cl2 (cmpAt T q1) 0) (cl2 + 1) (((F1.trans (RF_av h1 T q1)).trans F2).trans (RF_em h2 cl2 _ 0)) (RS_em r2) (by rw [em_6, e62, av_6, e61]) (by omega) (by omega) (fun i hi => by
            rw [em_c, up1_n _ _ (by omega), d3 i (by omega)]
            exact c3 i hi) (by
            rw [em_c]
            refine xs_bin (D1 := 3 + 2 * (8 - op)) (D2 := 3 + 2 * (8 - op)) (XSg.of c4 (fun i h1' h2' => ?_)) (XSg.of d4 (fun i h1' h2' => up1_n _ _ (by omega))) (up1_s _ _ _) (by omega) (by omega) (by omega) (by omega) (by omega)
            rw [up1_n _ _ (by omega)]
            exact d3 i (by omega))
          simp (disch := omega) only [U_Re_readsComparison (cm _), SA, SB, SC1, SC2, SG, SV, s2, E, true_or, or_true, true_implies, not_true_eq_false, not_false_eq_true, false_implies, true_and, and_true]
          exact K
    unfold cmpAt at T63
    by_cases g1 : bG T q1 60 = true
    · simp only [g1, b2_t] at G1
      simp only [g1, if_true] at T63
      simp (disch := omega) only [UC_Re_readsComparison_63 (cm _), SA, SB, SC1, SC2, SG, SV, s1, G1, eqI, Nat.one_ne_zero, true_or, or_true, true_implies, not_true_eq_false, not_false_eq_true, false_implies, true_and, and_true]
      exact (T63 _).2 (by omega)
    · rw [Bool.not_eq_true] at g1
      simp only [g1, b2_f] at G1
      simp only [g1, Bool.false_eq_true, if_false] at T63
      by_cases g2 : bG T q1 62 = true
      · simp only [g2, b2_t] at G2
        simp only [g2, if_true] at T63
        simp (disch := omega) only [UC_Re_readsComparison_63 (cm _), SA, SB, SC1, SC2, SG, SV, s1, G1, G2, eqI, Nat.one_ne_zero, true_or, or_true, true_implies, not_true_eq_false, not_false_eq_true, false_implies, true_and, and_true]
        exact (T63 _).2 (by omega)
      · rw [Bool.not_eq_true] at g2
        simp only [g2, b2_f] at G2
        simp only [g2, Bool.false_eq_true, if_false] at T63
        by_cases g3 : bG T q1 61 = true
        · simp only [g3, b2_t] at G3
          simp only [g3, if_true] at T63
          simp (disch := omega) only [UC_Re_readsComparison_63 (cm _), SA, SB, SC1, SC2, SG, SV, s1, G1, G2, G3, eqI, Nat.one_ne_zero, true_or, or_true, true_implies, not_true_eq_false, not_false_eq_true, false_implies, true_and, and_true]
          exact (T63 _).2 (by omega)
        · rw [Bool.not_eq_true] at g3
          simp only [g3, b2_f] at G3
          simp only [g3, Bool.false_eq_true, if_false] at T63
          simp (disch := omega) only [UC_Re_readsComparison_63 (cm _), SA, SB, SC1, SC2, SG, SV, s1, G1, G2, G3, eqI, Nat.one_ne_zero, true_or, or_true, true_implies, not_true_eq_false, not_false_eq_true, false_implies, true_and, and_true]
          exact (T63 _).1 trivial
set_option maxRecDepth 20000 in
theorem UC_Re_readsPlain_39 {G : GT} (hG : Gmono G) (R : RT) (lm : Nat × Nat) : WP cd_Re_readsPlain G R lm 0 = stp G R lm (7, 1, 0, 0, nI 0, 0, []) (WP cd_Re_readsPlain G R lm) ∧ WP cd_Re_readsPlain G R lm 1 = stp G R lm (4, 2, 2, 0, 0, 0, []) (WP cd_Re_readsPlain G R lm) ∧ WP cd_Re_readsPlain G R lm 2 = stp G R lm (7, 3, 0, 0, nI 0, 0, []) (WP cd_Re_readsPlain G R lm) ∧ WP cd_Re_readsPlain G R lm 3 = stp G R lm (4, 4, 3, 0, 0, 0, []) (WP cd_Re_readsPlain G R lm) ∧ WP cd_Re_readsPlain G R lm 5 = stp G R lm (7, 8, 0, 0, nI 400, 0, []) (WP cd_Re_readsPlain G R lm) ∧ WP cd_Re_readsPlain G R lm 8 = stp G R lm (44, 11, 39, 0, 0, 0, []) (WP cd_Re_readsPlain G R lm) ∧ WP cd_Re_readsPlain G R lm 11 = stp G R lm (2, 12, 0, 0, 0, 0, []) (WP cd_Re_readsPlain G R lm) ∧ WP cd_Re_readsPlain G R lm 12 = stp G R lm (58, 15, 4, 0, 0, 0, []) (WP cd_Re_readsPlain G R lm) ∧ WP cd_Re_readsPlain G R lm 15 = stp G R lm (10, 17, 9, 0, 0, 0, []) (WP cd_Re_readsPlain G R lm) ∧ WP cd_Re_readsPlain G R lm 17 = stp G R lm (86, 20, 70, 1, 0, 0, [5]) (WP cd_Re_readsPlain G R lm) ∧ WP cd_Re_readsPlain G R lm 20 = stp G R lm (47, 23, 39, 0, 0, 0, []) (WP cd_Re_readsPlain G R lm) ∧ WP cd_Re_readsPlain G R lm 23 = stp G R lm (11, 26, 2, 0, nI 1, 0, []) (WP cd_Re_readsPlain G R lm) ∧ WP cd_Re_readsPlain G R lm 26 = stp G R lm (2, 27, 0, 0, 0, 0, []) (WP cd_Re_readsPlain G R lm) ∧ WP cd_Re_readsPlain G R lm 27 = stp G R lm (58, 30, 4, 0, 0, 0, []) (WP cd_Re_readsPlain G R lm) ∧ WP cd_Re_readsPlain G R lm 30 = stp G R lm (86, 33, 67, 0, 0, 0, [5]) (WP cd_Re_readsPlain G R lm) ∧ WP cd_Re_readsPlain G R lm 33 = stp G R lm (11, 36, 3, 0, nI 1, 0, []) (WP cd_Re_readsPlain G R lm) ∧ WP cd_Re_readsPlain G R lm 36 = stp G R lm (40, 4, 0, 0, 0, 0, []) (WP cd_Re_readsPlain G R lm) ∧ WP cd_Re_readsPlain G R lm 40 = stp G R lm (58, 43, 4, 0, 0, 0, []) (WP cd_Re_readsPlain G R lm) ∧ WP cd_Re_readsPlain G R lm 43 = stp G R lm (7, 45, 0, 0, nI 40, 0, []) (WP cd_Re_readsPlain G R lm) ∧ WP cd_Re_readsPlain G R lm 45 = stp G R lm (86, 48, 71, 1, 0, 0, [5]) (WP cd_Re_readsPlain G R lm) ∧ WP cd_Re_readsPlain G R lm 48 = stp G R lm (47, 51, 62, 0, 0, 0, []) (WP cd_Re_readsPlain G R lm) ∧ WP cd_Re_readsPlain G R lm 51 = stp G R lm (2, 52, 0, 0, 0, 0, []) (WP cd_Re_readsPlain G R lm) ∧ WP cd_Re_readsPlain G R lm 52 = stp G R lm (7, 53, 0, 0, nI 0, 0, []) (WP cd_Re_readsPlain G R lm) ∧ WP cd_Re_readsPlain G R lm 53 = stp G R lm (7, 55, 0, 0, nI 41, 0, []) (WP cd_Re_readsPlain G R lm) ∧ WP cd_Re_readsPlain G R lm 55 = stp G R lm (1, 56, 1, 0, 0, 0, []) (WP cd_Re_readsPlain G R lm) ∧ WP cd_Re_readsPlain G R lm 56 = stp G R lm (86, 59, 60, 3, 0, 0, [4]) (WP cd_Re_readsPlain G R lm) ∧ WP cd_Re_readsPlain G R lm 59 = stp G R lm (40, 67, 0, 0, 0, 0, []) (WP cd_Re_readsPlain G R lm) ∧ WP cd_Re_readsPlain G R lm 62 = stp G R lm (2, 63, 0, 0, 0, 0, []) (WP cd_Re_readsPlain G R lm) ∧ WP cd_Re_readsPlain G R lm 63 = stp G R lm (1, 64, 1, 0, 0, 0, []) (WP cd_Re_readsPlain G R lm) ∧ WP cd_Re_readsPlain G R lm 64 = stp G R lm (86, 67, 59, 1, 0, 0, [4]) (WP cd_Re_readsPlain G R lm) ∧ WP cd_Re_readsPlain G R lm 67 = stp G R lm (4, 68, 3, 0, 0, 0, []) (WP cd_Re_readsPlain G R lm) ∧ WP cd_Re_readsPlain G R lm 68 = stp G R lm (1, 69, 3, 0, 0, 0, []) (WP cd_Re_readsPlain G R lm) ∧ WP cd_Re_readsPlain G R lm 69 = stp G R lm (47, 72, 85, 0, 0, 0, []) (WP cd_Re_readsPlain G R lm) ∧ WP cd_Re_readsPlain G R lm 72 = stp G R lm (1, 73, 2, 0, 0, 0, []) (WP cd_Re_readsPlain G R lm) ∧ WP cd_Re_readsPlain G R lm 73 = stp G R lm (7, 74, 0, 0, nI 2, 0, []) (WP cd_Re_readsPlain G R lm) ∧ WP cd_Re_readsPlain G R lm 74 = stp G R lm (16, 75, 0, 0, 0, 0, []) (WP cd_Re_readsPlain G R lm) ∧ WP cd_Re_readsPlain G R lm 75 = stp G R lm (7, 76, 0, 0, nI 1, 0, []) (WP cd_Re_readsPlain G R lm) ∧ WP cd_Re_readsPlain G R lm 76 = stp G R lm (42, 79, 85, 0, 0, 0, []) (WP cd_Re_readsPlain G R lm) ∧ WP cd_Re_readsPlain G R lm 79 = stp G R lm (2, 80, 0, 0, 0, 0, []) (WP cd_Re_readsPlain G R lm) ∧ WP cd_Re_readsPlain G R lm 80 = stp G R lm (7, 81, 0, 0, nI 3, 0, []) (WP cd_Re_readsPlain G R lm) ∧ WP cd_Re_readsPlain G R lm 81 = stp G R lm (7, 82, 0, 0, nI 0, 0, []) (WP cd_Re_readsPlain G R lm) ∧ WP cd_Re_readsPlain G R lm 82 = stp G R lm (86, 85, 50, 2, 0, 0, [4]) (WP cd_Re_readsPlain G R lm) ∧ WP cd_Re_readsPlain G R lm 85 = stp G R lm (1, 86, 3, 0, 0, 0, []) (WP cd_Re_readsPlain G R lm) ∧ WP cd_Re_readsPlain G R lm 86 = stp G R lm (81, 87, 1, 0, 0, 0, []) (WP cd_Re_readsPlain G R lm) := ⟨WP_eq hG rfl, WP_eq hG rfl, WP_eq hG rfl, WP_eq hG rfl, WP_eq hG rfl, WP_eq hG rfl, WP_eq hG rfl, WP_eq hG rfl, WP_eq hG rfl, WP_eq hG rfl, WP_eq hG rfl, WP_eq hG rfl, WP_eq hG rfl, WP_eq hG rfl, WP_eq hG rfl, WP_eq hG rfl, WP_eq hG rfl, WP_eq hG rfl, WP_eq hG rfl, WP_eq hG rfl, WP_eq hG rfl, WP_eq hG rfl, WP_eq hG rfl, WP_eq hG rfl, WP_eq hG rfl, WP_eq hG rfl, WP_eq hG rfl, WP_eq hG rfl, WP_eq hG rfl, WP_eq hG rfl, WP_eq hG rfl, WP_eq hG rfl, WP_eq hG rfl, WP_eq hG rfl, WP_eq hG rfl, WP_eq hG rfl, WP_eq hG rfl, WP_eq hG rfl, WP_eq hG rfl, WP_eq hG rfl, WP_eq hG rfl, WP_eq hG rfl, WP_eq hG rfl, WP_eq hG rfl⟩
set_option maxRecDepth 20000 in
theorem UC_Re_readsPlain_67 {G : GT} (hG : Gmono G) (R : RT) (lm : Nat × Nat) : WP cd_Re_readsPlain G R lm 0 = stp G R lm (7, 1, 0, 0, nI 0, 0, []) (WP cd_Re_readsPlain G R lm) ∧ WP cd_Re_readsPlain G R lm 1 = stp G R lm (4, 2, 2, 0, 0, 0, []) (WP cd_Re_readsPlain G R lm) ∧ WP cd_Re_readsPlain G R lm 2 = stp G R lm (7, 3, 0, 0, nI 0, 0, []) (WP cd_Re_readsPlain G R lm) ∧ WP cd_Re_readsPlain G R lm 3 = stp G R lm (4, 4, 3, 0, 0, 0, []) (WP cd_Re_readsPlain G R lm) ∧ WP cd_Re_readsPlain G R lm 5 = stp G R lm (7, 8, 0, 0, nI 400, 0, []) (WP cd_Re_readsPlain G R lm) ∧ WP cd_Re_readsPlain G R lm 8 = stp G R lm (44, 11, 39, 0, 0, 0, []) (WP cd_Re_readsPlain G R lm) ∧ WP cd_Re_readsPlain G R lm 11 = stp G R lm (2, 12, 0, 0, 0, 0, []) (WP cd_Re_readsPlain G R lm) ∧ WP cd_Re_readsPlain G R lm 12 = stp G R lm (58, 15, 4, 0, 0, 0, []) (WP cd_Re_readsPlain G R lm) ∧ WP cd_Re_readsPlain G R lm 15 = stp G R lm (10, 17, 9, 0, 0, 0, []) (WP cd_Re_readsPlain G R lm) ∧ WP cd_Re_readsPlain G R lm 17 = stp G R lm (86, 20, 70, 1, 0, 0, [5]) (WP cd_Re_readsPlain G R lm) ∧ WP cd_Re_readsPlain G R lm 20 = stp G R lm (47, 23, 39, 0, 0, 0, []) (WP cd_Re_readsPlain G R lm) ∧ WP cd_Re_readsPlain G R lm 23 = stp G R lm (11, 26, 2, 0, nI 1, 0, []) (WP cd_Re_readsPlain G R lm) ∧ WP cd_Re_readsPlain G R lm 26 = stp G R lm (2, 27, 0, 0, 0, 0, []) (WP cd_Re_readsPlain G R lm) ∧ WP cd_Re_readsPlain G R lm 27 = stp G R lm (58, 30, 4, 0, 0, 0, []) (WP cd_Re_readsPlain G R lm) ∧ WP cd_Re_readsPlain G R lm 30 = stp G R lm (86, 33, 67, 0, 0, 0, [5]) (WP cd_Re_readsPlain G R lm) ∧ WP cd_Re_readsPlain G R lm 33 = stp G R lm (11, 36, 3, 0, nI 1, 0, []) (WP cd_Re_readsPlain G R lm) ∧ WP cd_Re_readsPlain G R lm 36 = stp G R lm (40, 4, 0, 0, 0, 0, []) (WP cd_Re_readsPlain G R lm) ∧ WP cd_Re_readsPlain G R lm 39 = stp G R lm (2, 40, 0, 0, 0, 0, []) (WP cd_Re_readsPlain G R lm) ∧ WP cd_Re_readsPlain G R lm 40 = stp G R lm (58, 43, 4, 0, 0, 0, []) (WP cd_Re_readsPlain G R lm) ∧ WP cd_Re_readsPlain G R lm 43 = stp G R lm (7, 45, 0, 0, nI 40, 0, []) (WP cd_Re_readsPlain G R lm) ∧ WP cd_Re_readsPlain G R lm 45 = stp G R lm (86, 48, 71, 1, 0, 0, [5]) (WP cd_Re_readsPlain G R lm) ∧ WP cd_Re_readsPlain G R lm 48 = stp G R lm (47, 51, 62, 0, 0, 0, []) (WP cd_Re_readsPlain G R lm) ∧ WP cd_Re_readsPlain G R lm 51 = stp G R lm (2, 52, 0, 0, 0, 0, []) (WP cd_Re_readsPlain G R lm) ∧ WP cd_Re_readsPlain G R lm 52 = stp G R lm (7, 53, 0, 0, nI 0, 0, []) (WP cd_Re_readsPlain G R lm) ∧ WP cd_Re_readsPlain G R lm 53 = stp G R lm (7, 55, 0, 0, nI 41, 0, []) (WP cd_Re_readsPlain G R lm) ∧ WP cd_Re_readsPlain G R lm 55 = stp G R lm (1, 56, 1, 0, 0, 0, []) (WP cd_Re_readsPlain G R lm) ∧ WP cd_Re_readsPlain G R lm 56 = stp G R lm (86, 59, 60, 3, 0, 0, [4]) (WP cd_Re_readsPlain G R lm) ∧ WP cd_Re_readsPlain G R lm 59 = stp G R lm (40, 67, 0, 0, 0, 0, []) (WP cd_Re_readsPlain G R lm) ∧ WP cd_Re_readsPlain G R lm 62 = stp G R lm (2, 63, 0, 0, 0, 0, []) (WP cd_Re_readsPlain G R lm) ∧ WP cd_Re_readsPlain G R lm 63 = stp G R lm (1, 64, 1, 0, 0, 0, []) (WP cd_Re_readsPlain G R lm) ∧ WP cd_Re_readsPlain G R lm 64 = stp G R lm (86, 67, 59, 1, 0, 0, [4]) (WP cd_Re_readsPlain G R lm) ∧ WP cd_Re_readsPlain G R lm 68 = stp G R lm (1, 69, 3, 0, 0, 0, []) (WP cd_Re_readsPlain G R lm) ∧ WP cd_Re_readsPlain G R lm 69 = stp G R lm (47, 72, 85, 0, 0, 0, []) (WP cd_Re_readsPlain G R lm) ∧ WP cd_Re_readsPlain G R lm 72 = stp G R lm (1, 73, 2, 0, 0, 0, []) (WP cd_Re_readsPlain G R lm) ∧ WP cd_Re_readsPlain G R lm 73 = stp G R lm (7, 74, 0, 0, nI 2, 0, []) (WP cd_Re_readsPlain G R lm) ∧ WP cd_Re_readsPlain G R lm 74 = stp G R lm (16, 75, 0, 0, 0, 0, []) (WP cd_Re_readsPlain G R lm) ∧ WP cd_Re_readsPlain G R lm 75 = stp G R lm (7, 76, 0, 0, nI 1, 0, []) (WP cd_Re_readsPlain G R lm) ∧ WP cd_Re_readsPlain G R lm 76 = stp G R lm (42, 79, 85, 0, 0, 0, []) (WP cd_Re_readsPlain G R lm) ∧ WP cd_Re_readsPlain G R lm 79 = stp G R lm (2, 80, 0, 0, 0, 0, []) (WP cd_Re_readsPlain G R lm) ∧ WP cd_Re_readsPlain G R lm 80 = stp G R lm (7, 81, 0, 0, nI 3, 0, []) (WP cd_Re_readsPlain G R lm) ∧ WP cd_Re_readsPlain G R lm 81 = stp G R lm (7, 82, 0, 0, nI 0, 0, []) (WP cd_Re_readsPlain G R lm) ∧ WP cd_Re_readsPlain G R lm 82 = stp G R lm (86, 85, 50, 2, 0, 0, [4]) (WP cd_Re_readsPlain G R lm) ∧ WP cd_Re_readsPlain G R lm 85 = stp G R lm (1, 86, 3, 0, 0, 0, []) (WP cd_Re_readsPlain G R lm) ∧ WP cd_Re_readsPlain G R lm 86 = stp G R lm (81, 87, 1, 0, 0, 0, []) (WP cd_Re_readsPlain G R lm) := ⟨WP_eq hG rfl, WP_eq hG rfl, WP_eq hG rfl, WP_eq hG rfl, WP_eq hG rfl, WP_eq hG rfl, WP_eq hG rfl, WP_eq hG rfl, WP_eq hG rfl, WP_eq hG rfl, WP_eq hG rfl, WP_eq hG rfl, WP_eq hG rfl, WP_eq hG rfl, WP_eq hG rfl, WP_eq hG rfl, WP_eq hG rfl, WP_eq hG rfl, WP_eq hG rfl, WP_eq hG rfl, WP_eq hG rfl, WP_eq hG rfl, WP_eq hG rfl, WP_eq hG rfl, WP_eq hG rfl, WP_eq hG rfl, WP_eq hG rfl, WP_eq hG rfl, WP_eq hG rfl, WP_eq hG rfl, WP_eq hG rfl, WP_eq hG rfl, WP_eq hG rfl, WP_eq hG rfl, WP_eq hG rfl, WP_eq hG rfl, WP_eq hG rfl, WP_eq hG rfl, WP_eq hG rfl, WP_eq hG rfl, WP_eq hG rfl, WP_eq hG rfl, WP_eq hG rfl, WP_eq hG rfl⟩
theorem nts_ok (T : TP) : ∀ (m q : Nat), q ≤ T.2 → q ≤ (nts T m q).2 ∧ (nts T m q).2 ≤ T.2 ∧ (nts T m q).1 + q ≤ (nts T m q).2 ∧ (T.2 < q + m → bW T (nts T m q).2 7 = false)
  | 0, q, hq => ⟨Nat.le_refl _, hq, by show 0 + q ≤ q; omega, fun z => by omega⟩
  | m + 1, q, hq => by
    by_cases c : bW T q 7 = true
    · obtain ⟨a1, a2⟩ := q_adv hq (bW_ty c)
      obtain ⟨h1, h2, h3, h4⟩ := nts_ok T m (tBe T q) a2
      rw [show nts T (m + 1) q = ((nts T m (tBe T q)).1 + 1, (nts T m (tBe T q)).2) from if_pos c]
      exact ⟨by show q ≤ (nts T m (tBe T q)).2; omega, h2, by show (nts T m (tBe T q)).1 + 1 + q ≤ (nts T m (tBe T q)).2; omega, fun z => h4 (by omega)⟩
    · rw [show nts T (m + 1) q = (0, q) from if_neg c]
      exact ⟨Nat.le_refl _, hq, by show 0 + q ≤ q; omega, fun _ => Bool.eq_false_iff.mpr c⟩
theorem x_l_nots (d op : Nat) {T : TP} {om k cl : Nat} (Q : RT) (lm : Nat × Nat) : ∀ (m i c q : Nat) (h : MH), i + m = 400 → RS h T om q k cl → (∀ h', RF h h' → hfi h' 213 6 = hfi h 213 6 → hia h' 216 = hia h 216 → RS h' T om (nts T m q).2 k cl → ∀ w, WP cd_Re_readsPlain (callD (d + 2)) Q lm 39 [] [some (.ref 213), some (.int (nI op)), some (.int (nI (c + (nts T m q).1))), w] h') → WP cd_Re_readsPlain (callD (d + 2)) Q lm 4 [] [some (.ref 213), some (.int (nI op)), some (.int (nI c)), some (.int (nI i))] h
  | 0, i, c, q, h, hi, r, kk => by
    have K := kk h (RF.refl h) rfl rfl r (some (.int (nI i)))
    rw [show c + (nts T 0 q).1 = c from rfl] at K
    rw [U_Re_readsPlain_4 (cm _)]
    simp (disch := omega) only [UC_Re_readsPlain_39 (cm _), SA, SB, SG, SV, leI, show 400 ≤ i by omega, true_implies, not_true_eq_false, not_false_eq_true, false_implies, true_and, and_true]
    exact K
  | m + 1, i, c, q, h, hi, r, kk => by
    have s := r.1
    unfold XSr at s
    have G := x_hasWord (d + 1) q 7 (by omega) r.2.1
    rw [U_Re_readsPlain_4 (cm _)]
    by_cases g : bW T q 7 = true
    · simp only [g, b2_t] at G
      have A := r_adv d r
      have I := x_l_nots d op Q lm m (i + 1) (c + 1) (tBe T q) (avH h T q) (by omega) (RS_av r) (fun h' F e6 ec r' w => by
        have := kk h' ((RF_av h T q).trans F) (by rw [e6, av_6]) ec (by rw [show nts T (m + 1) q = ((nts T m (tBe T q)).1 + 1, (nts T m (tBe T q)).2) from if_pos g]; exact r') w
        rw [show nts T (m + 1) q = ((nts T m (tBe T q)).1 + 1, (nts T m (tBe T q)).2) from if_pos g, show c + ((nts T m (tBe T q)).1 + 1) = c + 1 + (nts T m (tBe T q)).1 by omega] at this
        exact this)
      simp (disch := omega) only [UC_Re_readsPlain_39 (cm _), SA, SB, SC1, SC2, SG, SV, s, G, A, leI, show ¬ 400 ≤ i by omega, eqI, Nat.one_ne_zero, nI_add, true_implies, not_true_eq_false, not_false_eq_true, false_implies, true_and, and_true]
      exact I
    · have g' := Bool.eq_false_iff.mpr g
      simp only [g', b2_f] at G
      have K := kk h (RF.refl h) rfl rfl (by rw [show nts T (m + 1) q = (0, q) from if_neg g]; exact r) (some (.int (nI i)))
      rw [show nts T (m + 1) q = (0, q) from if_neg g] at K
      simp (disch := omega) only [UC_Re_readsPlain_39 (cm _), SA, SB, SC1, SC2, SG, SV, s, G, leI, show ¬ 400 ≤ i by omega, eqI, Nat.one_ne_zero, nI_add, true_implies, not_true_eq_false, not_false_eq_true, false_implies, true_and, and_true]
      exact K
theorem nI_mod2 {c : Nat} (h : c < 1000) : nI c - nI c / nI 2 * nI 2 = nI (c % 2) := nI_mod (by omega) (by omega)
theorem x_plain (n d op q k cl : Nat) {T : TP} {om : Nat} (HP : HPx T om n) (HT : TLev T om n) (hop : op ≤ 8) (hn : 4 * (8 - op) + 2 ≤ n) (hk : k ≤ 50) {h : MH} (r : RS h T om q k cl) (hc : cl + T.2 < 448 + q) (Q : RT) (kk : XOK h T om q cl (4 + 2 * (8 - op)) (pPl T (pCh T om n) op q k) Q) : callD (d + 4 * n + 6) 58 [.ref 213, .int (nI op)] h Q := by
  have hq := r.2.1.2.2.1
  have n4 := r.2.1.2.1.1
  obtain ⟨o1, o2, o3, -⟩ := nts_ok T 400 q hq
  rw [E_Re_readsPlain]
  simp (disch := omega) only [U_Re_readsPlain (cm _), SA, SB, SG, SV]
  refine x_l_nots (d + 4 * n + 3) op Q _ 400 0 0 q h (by omega) r (fun h1 F1 e61 ec1 r1 w => ?_)
  rw [Nat.zero_add]
  unfold pPl at kk
  generalize hN : (nts T 400 q).1 = nn' at *
  generalize hQ : (nts T 400 q).2 = q1 at *
  have s1 := r1.1
  unfold XSr at s1
  have z2 : ¬ nI 2 = nI 0 := by decide
  -- the end: a not, perhaps
  have TE : ∀ (h' : MH) (f : Nat), ER h1 h' f → (∀ h', ER h h' f → Q (some (.int (nI 0))) h') → ∀ lm, WP cd_Re_readsPlain (callD (d + 4 * n + 5)) Q lm 67 [.int (nI 0)] [some (.ref 213), some (.int (nI op)), some (.int (nI nn')), w] h' := fun h' f E k2 lm => by
    have K := k2 h' (E.pre F1)
    simp (disch := omega) only [U_Re_readsPlain (cm _), SA, SB, SG, SV, true_or, true_implies, not_true_eq_false, not_false_eq_true, false_implies, true_and, and_true]
    exact K
  have TO : ∀ (v : VAL) (q2 k2 cl2 : Nat) (h' : MH), RF h1 h' → RS h' T om q2 k2 cl2 → hfi h' 213 6 = hfi h1 213 6 → cl < cl2 → cl2 + q1 ≤ cl + q2 → (∀ i, i < cl → hia h' 216 i = hia h1 216 i) → XSg (hia h' 216) om cl cl2 (4 + 2 * (8 - op)) v → TestV v → XOK h T om q cl (4 + 2 * (8 - op)) (.ok (if nn' % 2 = 1 then vNot v else v, q2, k2)) Q → ∀ lm, WP cd_Re_readsPlain (callD (d + 4 * n + 5)) Q lm 67 [.int (nI 1)] [some (.ref 213), some (.int (nI op)), some (.int (nI nn')), w] h' := fun v q2 k2 cl2 h' F' r' e6 c1 c2 c3 c4 tv kx lm => by
    unfold XOK at kx
    simp only at kx
    have hq2 := r'.2.1.2.2.1
    have s' := r'.1
    unfold XSr at s'
    by_cases cm2 : nn' % 2 = 1
    · rw [if_pos cm2] at kx
      have E := r_emits (d + 4 * n + 4) 0 om q2 k2 cl2 3 0 (by omega) (by omega) (by omega) r'
      have K := kx (emF h' cl2 3 0) (cl2 + 1) ((F1.trans F').trans (RF_em h' cl2 3 0)) (RS_em r') (by rw [em_6, e6, e61]) (by omega) (by omega) (fun i hi => by
        rw [em_c, up1_n _ _ (by omega), c3 i hi, ec1]) (by
        rw [em_c]
        exact xs_not (D1 := 4 + 2 * (8 - op)) (XSg.of c4 (fun i _ h2' => up1_n _ _ (by omega))) tv (up1_s _ _ _) (by omega) (by omega))
      simp (disch := omega) only [U_Re_readsPlain (cm _), SA, SB, SC1, SC2, SG, SV, s', E, z2, nI_mod2, cm2, eqI, Nat.one_ne_zero, true_or, or_true, true_implies, not_true_eq_false, not_false_eq_true, false_implies, true_and, and_true]
      exact K
    · rw [if_neg cm2] at kx
      have K := kx h' cl2 (F1.trans F') r' (by rw [e6, e61]) c1 (by omega) (fun i hi => by rw [c3 i hi, ec1]) c4
      simp (disch := omega) only [U_Re_readsPlain (cm _), SA, SB, SC1, SC2, SG, SV, s', z2, nI_mod2, cm2, eqI, Nat.one_ne_zero, true_or, or_true, true_implies, not_true_eq_false, not_false_eq_true, false_implies, true_and, and_true]
      exact K
  have G := x_hasSign (d + 4 * n + 4) q1 40 (by omega) r1.2.1
  by_cases g : bG T q1 40 = true
  · simp only [g, b2_t] at G
    rw [if_pos g] at kk
    simp (disch := omega) only [UC_Re_readsPlain_67 (cm _), SA, SB, SC1, SC2, SG, SV, s1, G, eqI, Nat.one_ne_zero, true_implies, not_true_eq_false, not_false_eq_true, false_implies, true_and, and_true]
    refine x_bracket n d 0 41 op q1 k cl HP (by omega) hop (by omega) (by omega) hk r1 (by omega) (bG_ty g) (4 + 2 * (8 - op)) (fun _ => by rw [dD_0]; omega) _ ?_
    unfold XOK
    cases hb : pBr T (pCh T om n) 0 41 op q1 k with
    | error f =>
      rw [hb] at kk
      intro h' E
      simp only [SV, UC_Re_readsPlain_67 (cm _), SA, SB]
      exact TE h' f E kk _
    | ok w2 =>
      obtain ⟨v, q2, k2⟩ := w2
      rw [hb] at kk
      simp only at kk ⊢
      intro h' cl' F' r' e6 c1 c2 c3 c4
      simp only [SV, UC_Re_readsPlain_67 (cm _), SA, SB]
      refine TO v q2 k2 cl' h' F' r' e6 c1 c2 c3 c4 ?_ kk _
      unfold pBr at hb
      split at hb
      · cases hb
      · cases hp : pCh T om n 0 (op + 1) (tBe T q1) k with
        | error f => rw [hp] at hb; cases hb
        | ok w3 =>
          obtain ⟨v3, q3, k3⟩ := w3
          rw [hp] at hb
          simp only at hb
          split at hb
          · cases hb; exact HT 0 (op + 1) (tBe T q1) k v q3 k2 (by omega) hp
          · cases hb
  · have g' := Bool.eq_false_iff.mpr g
    simp only [g', b2_f] at G
    rw [if_neg g] at kk
    simp (disch := omega) only [UC_Re_readsPlain_67 (cm _), SA, SB, SC1, SC2, SG, SV, s1, G, eqI, Nat.one_ne_zero, true_implies, not_true_eq_false, not_false_eq_true, false_implies, true_and, and_true]
    refine x_comparison n d op q1 k cl HP hop hn hk r1 (by omega) _ ?_
    unfold XOK
    cases hb : pCm T (pCh T om n) op q1 k with
    | error f =>
      rw [hb] at kk
      intro h' E
      simp only [SV]
      exact TE h' f E kk _
    | ok w2 =>
      obtain ⟨v, q2, k2⟩ := w2
      rw [hb] at kk
      simp only at kk ⊢
      intro h' cl' F' r' e6 c1 c2 c3 c4
      simp only [SV]
      refine TO v q2 k2 cl' h' F' r' e6 c1 c2 c3 c4 ?_ kk _
      unfold pCm at hb
      cases hp : pCh T om n 2 op q1 k with
      | error f => rw [hp] at hb; cases hb
      | ok w3 =>
        obtain ⟨v3, q3, k3⟩ := w3
        rw [hp] at hb
        simp only at hb
        split at hb
        · cases hb
        · next z =>
          cases hp2 : pCh T om n 2 op (tBe T q3) k3 with
          | error f => rw [hp2] at hb; cases hb
          | ok w4 =>
            obtain ⟨v4, q4, k4⟩ := w4
            rw [hp2] at hb
            cases hb
            exact test_cmp (x_cmpAt z).1 _ _
