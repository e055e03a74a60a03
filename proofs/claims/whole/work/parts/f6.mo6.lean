/-! ===== the reference is made: the loops over its row ===== -/
theorem m_l_inA (d : Nat) {H : MH} (m1 : hkd H 273 = 8) (m2 : hfr H 273 3 = some 275) (m3 : hkd H 275 = 20) (m4 : hln H 275 = 7422) (R : RT) (lm : Nat × Nat) (K : WP cd_Mo_init (callD d) R lm 379 [] [some (.ref 273), some (.int (nI 0)), none] (sIA H 275 (inA 49))) : ∀ (m k : Nat), k + m = 49 → WP cd_Mo_init (callD d) R lm 353 [] [some (.ref 273), some (.int (nI k)), none] (sIA H 275 (inA k))
  | 0, k, e => by
    have e49 : k = 49 := by omega
    subst e49
    rw [U_Mo_init_353 (cm _)]
    simp (disch := omega) only [US_Mo_init_354 (cm _), SA, SB, SC1, SC2, SG, SK, SV, leI, Nat.le_refl, true_or, or_true, true_implies, not_true_eq_false, not_false_eq_true, false_implies, true_and, and_true]
    exact K
  | m + 1, k, e => by
    have ih := m_l_inA d m1 m2 m3 m4 R lm K m (k + 1) (by omega)
    rw [← inA_s] at ih
    rw [U_Mo_init_353 (cm _)]
    simp (disch := omega) only [US_Mo_init_354 (cm _), SA, SB, SC1, SC2, SG, SK, SV, m1, m2, m3, m4, up1_s, leI, show ¬ 49 ≤ k by omega, nI_add, nI_clamp, in_eq, Nat.reduceLeDiff, true_or, or_true, true_implies, not_true_eq_false, not_false_eq_true, false_implies, true_and, and_true]
    exact ih
theorem m_l_inB (d : Nat) {H : MH} (m1 : hkd H 273 = 8) (m2 : hfr H 273 3 = some 275) (m3 : hkd H 275 = 20) (m4 : hln H 275 = 7422) (R : RT) (lm : Nat × Nat) (K : R none (sIA H 275 ini)) : ∀ (m r : Nat) (w : Option Value), r + m = 7 → WP cd_Mo_init (callD (d + 1)) R lm 379 [] [some (.ref 273), some (.int (nI r)), w] (sIA H 275 (inB r))
  | 0, r, w, e => by
    have e7 : r = 7 := by omega
    subst e7
    rw [← inB_7] at K
    rw [U_Mo_init_379 (cm _)]
    simp (disch := omega) only [US_Mo_init_380 (cm _), SA, SB, SC1, SC2, SG, SK, SV, leI, Nat.le_refl, true_or, or_true, true_implies, not_true_eq_false, not_false_eq_true, false_implies, true_and, and_true]
    exact K
  | m + 1, r, w, e => by
    have ih := m_l_inB d m1 m2 m3 m4 R lm K m (r + 1) (some (.int (nI (105 + 7 * r)))) (by omega)
    rw [← inB_s r (by omega)] at ih
    have RA := fun h Q => e_routerAt d r (by omega) h Q
    rw [U_Mo_init_379 (cm _)]
    by_cases c : r = 0
    · subst c
      rw [if_pos rfl] at ih
      have n7 : ¬ 7 ≤ 0 := by omega
      simp (disch := omega) only [US_Mo_init_380 (cm _), SA, SB, SC1, SC2, SG, SK, SV, m1, m2, m3, m4, RA, up1_s, leI, n7, eq_self, nI_add, nI_clamp, in_eq, Nat.reduceLeDiff, true_or, or_true, true_implies, not_true_eq_false, not_false_eq_true, false_implies, true_and, and_true]
      exact ih
    · rw [if_neg c] at ih
      simp (disch := omega) only [US_Mo_init_380 (cm _), SA, SB, SC1, SC2, SG, SK, SV, m1, m2, m3, m4, RA, up1_s, leI, show ¬ 7 ≤ r by omega, eqI, c, nI_add, nI_clamp, in_eq, Nat.reduceLeDiff, true_or, or_true, true_implies, not_true_eq_false, not_false_eq_true, false_implies, true_and, and_true]
      exact ih
