/-! ===== the reference is made: more words ===== -/
theorem m_nw2 (d : Nat) {h : MH} (hq : 273 < hsz h) (k0 : hkd h 273 = 8) (R : RT) (lm : Nat × Nat) (y1 : hcc h + 1 ≤ lm.1) (y2 : hcu h + 6 ≤ lm.2) (K : ∀ H F, AJ1 h H 273 32 6 F → (∀ k, k < 6 → F k = lN (ev (wds (wkO k)).reverse)) → WP cd_Mo_init (callD d) R lm 223 [] [some (.ref 273), none, none] H) : WP cd_Mo_init (callD d) R lm 179 [] [some (.ref 273), none, none] h := by
  have nq : ¬ 273 = hsz h := by omega
  have n24 : 24 ≤ hsz h := by omega
  simp (disch := omega) only [US_Mo_init_179 (cm _), SA, SB, SC1, SC2, SG, SK, SV, k0, y1, y2, n24, ltI, nI_clamp, in_eq, nq, Nat.not_lt_zero, up1_n, up1_s, Nat.reduceLeDiff, true_or, or_true, true_implies, not_true_eq_false, not_false_eq_true, false_implies, true_and, and_true]
  refine K _ _ (AJ_g h 273 32 6 _ hq) (fun k hk => ?_)
  rcases (show k = 0 ∨ k = 1 ∨ k = 2 ∨ k = 3 ∨ k = 4 ∨ k = 5 by omega) with rfl | rfl | rfl | rfl | rfl | rfl <;> simp (disch := omega) only [up1_s, up1_n] <;> decide
theorem m_nw3 (d : Nat) {h : MH} (hq : 273 < hsz h) (k0 : hkd h 273 = 8) (R : RT) (lm : Nat × Nat) (y1 : hcc h + 1 ≤ lm.1) (y2 : hcu h + 2 ≤ lm.2) (K : ∀ H F, AJ1 h H 273 33 2 F → (F 0 = lN (ev (wds 3).reverse) ∧ F 1 = lN (ev (wds 4).reverse)) → WP cd_Mo_init (callD d) R lm 242 [] [some (.ref 273), none, none] H) : WP cd_Mo_init (callD d) R lm 223 [] [some (.ref 273), none, none] h := by
  have nq : ¬ 273 = hsz h := by omega
  have n24 : 24 ≤ hsz h := by omega
  simp (disch := omega) only [US_Mo_init_223 (cm _), SA, SB, SC1, SC2, SG, SK, SV, k0, y1, y2, n24, ltI, nI_clamp, in_eq, nq, Nat.not_lt_zero, up1_n, up1_s, Nat.reduceLeDiff, true_or, or_true, true_implies, not_true_eq_false, not_false_eq_true, false_implies, true_and, and_true]
  refine K _ _ (AJ_g h 273 33 2 _ hq) ⟨?_, ?_⟩ <;> simp (disch := omega) only [up1_s, up1_n] <;> decide
theorem m_nw4 (d : Nat) {h : MH} (hq : 273 < hsz h) (k0 : hkd h 273 = 8) (R : RT) (lm : Nat × Nat) (y1 : hcc h + 1 ≤ lm.1) (y2 : hcu h + 3 ≤ lm.2) (K : ∀ H F, AJ1 h H 273 44 3 F → (F 0 = lN (ev (wds 0).reverse) ∧ F 1 = lN (ev (wds 1).reverse) ∧ F 2 = lN (ev (wds 2).reverse)) → WP cd_Mo_init (callD d) R lm 316 [] [some (.ref 273), none, none] H) : WP cd_Mo_init (callD d) R lm 291 [] [some (.ref 273), none, none] h := by
  have nq : ¬ 273 = hsz h := by omega
  have n24 : 24 ≤ hsz h := by omega
  simp (disch := omega) only [US_Mo_init_291 (cm _), SA, SB, SC1, SC2, SG, SK, SV, k0, y1, y2, n24, ltI, nI_clamp, in_eq, nq, Nat.not_lt_zero, up1_n, up1_s, Nat.reduceLeDiff, true_or, or_true, true_implies, not_true_eq_false, not_false_eq_true, false_implies, true_and, and_true]
  refine K _ _ (AJ_g h 273 44 3 _ hq) ⟨?_, ?_, ?_⟩ <;> simp (disch := omega) only [up1_s, up1_n] <;> decide
