/-! ===== the reference is made: small steps ===== -/
set_option maxRecDepth 20000 in
theorem US_Mo_init_79 {G : GT} (hG : Gmono G) (R : RT) (lm : Nat × Nat) : WP cd_Mo_init G R lm 79 = stp G R lm (2, 80, 0, 0, 0, 0, []) (WP cd_Mo_init G R lm) ∧ WP cd_Mo_init G R lm 80 = stp G R lm (7, 81, 0, 0, (-1), 0, []) (WP cd_Mo_init G R lm) ∧ WP cd_Mo_init G R lm 81 = stp G R lm (59, 84, 8, 18, 0, 0, []) (WP cd_Mo_init G R lm) := ⟨WP_eq hG rfl, WP_eq hG rfl, WP_eq hG rfl⟩
set_option maxRecDepth 20000 in
theorem US_Mo_init_324 {G : GT} (hG : Gmono G) (R : RT) (lm : Nat × Nat) : WP cd_Mo_init G R lm 324 = stp G R lm (2, 325, 0, 0, 0, 0, []) (WP cd_Mo_init G R lm) ∧ WP cd_Mo_init G R lm 325 = stp G R lm (7, 326, 0, 0, (-1), 0, []) (WP cd_Mo_init G R lm) ∧ WP cd_Mo_init G R lm 326 = stp G R lm (59, 329, 8, 48, 0, 0, []) (WP cd_Mo_init G R lm) := ⟨WP_eq hG rfl, WP_eq hG rfl, WP_eq hG rfl⟩
theorem inB_0 : inB 0 = inA 49 := funext fun x => by
  unfold inB
  rw [if_neg (show ¬ (105 ≤ x ∧ x < 105 + 7 * 0) by omega)]
theorem m_pf1 (d : Nat) {g : MH} (R : RT) (lm : Nat × Nat) (k8 : hkd g 273 = 8) (K : WP cd_Mo_init (callD d) R lm 84 [] [some (.ref 273), none, none] (sFI g 273 (up1 (hfi g 273) 18 (-1)))) : WP cd_Mo_init (callD d) R lm 79 [] [some (.ref 273), none, none] g := by
  simp (disch := omega) only [US_Mo_init_79 (cm _), SA, SB, SC1, SC2, SG, SK, SV, k8, true_or, or_true, true_implies, not_true_eq_false, not_false_eq_true, false_implies, true_and, and_true]
  exact K
theorem m_pf2 (d : Nat) {g : MH} (R : RT) (lm : Nat × Nat) (k8 : hkd g 273 = 8) (K : WP cd_Mo_init (callD d) R lm 329 [] [some (.ref 273), none, none] (sFI g 273 (up1 (hfi g 273) 48 (-1)))) : WP cd_Mo_init (callD d) R lm 324 [] [some (.ref 273), none, none] g := by
  simp (disch := omega) only [US_Mo_init_324 (cm _), SA, SB, SC1, SC2, SG, SK, SV, k8, true_or, or_true, true_implies, not_true_eq_false, not_false_eq_true, false_implies, true_and, and_true]
  exact K
theorem inA_0 : up1 (up1 (fun _ => nI 0) 2 (-1)) 3 (nI 1) = inA 0 := funext fun x => by
  unfold inA
  rw [if_neg (show ¬ (56 ≤ x ∧ x < 56 + 0) by omega)]
  by_cases c3 : x = 3
  · rw [c3, up1_s, if_neg (by omega), if_pos rfl]
  · rw [up1_n _ _ c3]
    by_cases c2 : x = 2
    · rw [c2, up1_s, if_pos rfl]
    · rw [up1_n _ _ c2, if_neg c2, if_neg c3]
theorem m_r337 (d : Nat) {H : MH} (m1 : hkd H 273 = 8) (m2 : hfr H 273 3 = some 275) (m3 : hkd H 275 = 20) (m4 : hln H 275 = 7422) (f0 : hia H 275 = fun _ => nI 0) (R : RT) (lm : Nat × Nat) (K : WP cd_Mo_init (callD d) R lm 353 [] [some (.ref 273), some (.int (nI 0)), none] (sIA H 275 (inA 0))) : WP cd_Mo_init (callD d) R lm 337 [] [some (.ref 273), none, none] H := by
  rw [← inA_0, ← f0] at K
  simp (disch := omega) only [US_Mo_init_337 (cm _), SA, SB, SC1, SC2, SG, SK, SV, m1, m2, m3, m4, up1_s, nI_clamp, in_eq, Nat.reduceLeDiff, true_or, or_true, true_implies, not_true_eq_false, not_false_eq_true, false_implies, true_and, and_true]
  exact K
