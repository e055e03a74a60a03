/-! ===== the law's beginning: both are made ===== -/
set_option maxRecDepth 20000 in
theorem US_law_0 {G : GT} (hG : Gmono G) (R : RT) (lm : Nat × Nat) : WP cd_law G R lm 0 = stp G R lm (75, 3, 7, 16, 0, 0, []) (WP cd_law G R lm) ∧ WP cd_law G R lm 3 = stp G R lm (37, 4, 0, 0, 0, 0, []) (WP cd_law G R lm) ∧ WP cd_law G R lm 4 = stp G R lm (90, 7, 78, 0, 0, 0, [7, 248, 13784]) (WP cd_law G R lm) ∧ WP cd_law G R lm 7 = stp G R lm (5, 8, 1, 0, 0, 0, []) (WP cd_law G R lm) ∧ WP cd_law G R lm 8 = stp G R lm (75, 11, 8, 53, 0, 0, []) (WP cd_law G R lm) ∧ WP cd_law G R lm 11 = stp G R lm (37, 12, 0, 0, 0, 0, []) (WP cd_law G R lm) ∧ WP cd_law G R lm 12 = stp G R lm (90, 15, 129, 0, 0, 0, [8, 26, 86238]) (WP cd_law G R lm) ∧ WP cd_law G R lm 15 = stp G R lm (5, 16, 2, 0, 0, 0, []) (WP cd_law G R lm) ∧ WP cd_law G R lm 16 = stp G R lm (7, 17, 0, 0, nI 0, 0, []) (WP cd_law G R lm) ∧ WP cd_law G R lm 17 = stp G R lm (4, 18, 3, 0, 0, 0, []) (WP cd_law G R lm) := ⟨WP_eq hG rfl, WP_eq hG rfl, WP_eq hG rfl, WP_eq hG rfl, WP_eq hG rfl, WP_eq hG rfl, WP_eq hG rfl, WP_eq hG rfl, WP_eq hG rfl, WP_eq hG rfl⟩
theorem st_law {L : Nat} {xs : Nat → Int32} {g : MH} (z : hsz g = 24) (c : hcc g = 0) (u : hcu g = 0) (k0 : hkd g 0 = 20) (l0 : hln g 0 = L) (i0 : hia g 0 = xs) (k1 : hkd g 1 = 20) (l1 : hln g 1 = 3) (i1 : hia g 1 = mostF) (R : RT) (K : ∀ G, Sta L xs 512 G → WP cd_law (callD 1000) R (600000, 7302250) 18 [] [some (.ref 0), some (.ref 24), some (.ref 273), some (.int (nI 0))] G) : WP cd_law (callD 1000) R (600000, 7302250) 0 [] [some (.ref 0), none, none, none] g := by
  have Fa := Frc_g g 7 16
  have ca : hcc (hnew g 7 16) = 1 := by rw [Fa.1.2.1, c]
  have ua : hcu (hnew g 7 16) = 16 := by rw [Fa.1.2.2, u]
  have ka : hkd (hnew g 7 16) 24 = 7 := by rw [← z]; exact Fa.2.2.1
  simp (disch := omega) only [US_law_0 (cm _), SA, SB, SC1, SC2, SV, z, c, u, ca, ua, ka, Nat.reduceAdd, Nat.reduceLeDiff, true_or, or_true, true_implies, not_true_eq_false, not_false_eq_true, false_implies, true_and, and_true]
  have za : hsz (hnew g 7 16) = 25 := by rw [Fa.1.1, z]
  have fa : hfi (hnew g 7 16) 24 = fun _ => 0 := by rw [← z]; exact Fa.2.2.2.2.1
  generalize hnew g 7 16 = a at *
  refine x_newDi 995 ka za fa _ (fun F D => ?_)
  have zF : hsz F = 273 := D.1.1
  have cF : hcc F = 249 := by rw [D.1.2.1, ca]
  have uF : hcu F = 13800 := by rw [D.1.2.2, ua]
  have Fb := Frc_g F 8 53
  have cb : hcc (hnew F 8 53) = 250 := by rw [Fb.1.2.1, cF]
  have ub : hcu (hnew F 8 53) = 13853 := by rw [Fb.1.2.2, uF]
  have kb : hkd (hnew F 8 53) 273 = 8 := by rw [← zF]; exact Fb.2.2.1
  simp (disch := omega) only [US_law_0 (cm _), SA, SB, SC1, SC2, SV, zF, cF, uF, cb, ub, kb, Nat.reduceAdd, Nat.reduceLeDiff, true_or, or_true, true_implies, not_true_eq_false, not_false_eq_true, false_implies, true_and, and_true]
  have zb : hsz (hnew F 8 53) = 274 := by rw [Fb.1.1, zF]
  have fb : hfi (hnew F 8 53) 273 = fun _ => 0 := by rw [← zF]; exact Fb.2.2.2.2.1
  generalize hnew F 8 53 = b at *
  refine m_newMo 998 kb zb fb _ (fun G M => ?_)
  simp (disch := omega) only [US_law_0 (cm _), SA, SB, SC1, SC2, SV, true_or, or_true, true_implies, not_true_eq_false, not_false_eq_true, false_implies, true_and, and_true]
  exact K G (st_gi z c u k0 l0 i0 k1 l1 i1 Fa D Fb M)
