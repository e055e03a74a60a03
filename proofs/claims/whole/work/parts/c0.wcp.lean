/-! ===== a world is copied ===== -/
set_option maxRecDepth 20000 in
theorem UC_Wo_copies_37 {G : GT} (hG : Gmono G) (R : RT) (lm : Nat × Nat) : WP cd_Wo_copies G R lm 0 = stp G R lm (2, 1, 0, 0, 0, 0, []) (WP cd_Wo_copies G R lm) ∧ WP cd_Wo_copies G R lm 1 = stp G R lm (58, 4, 6, 0, 0, 0, []) (WP cd_Wo_copies G R lm) ∧ WP cd_Wo_copies G R lm 4 = stp G R lm (2, 5, 1, 0, 0, 0, []) (WP cd_Wo_copies G R lm) ∧ WP cd_Wo_copies G R lm 5 = stp G R lm (58, 8, 6, 0, 0, 0, []) (WP cd_Wo_copies G R lm) ∧ WP cd_Wo_copies G R lm 8 = stp G R lm (86, 11, 17, 1, 0, 0, [2]) (WP cd_Wo_copies G R lm) ∧ WP cd_Wo_copies G R lm 11 = stp G R lm (7, 12, 0, 0, nI 0, 0, []) (WP cd_Wo_copies G R lm) ∧ WP cd_Wo_copies G R lm 12 = stp G R lm (4, 13, 2, 0, 0, 0, []) (WP cd_Wo_copies G R lm) ∧ WP cd_Wo_copies G R lm 14 = stp G R lm (7, 16, 0, 0, nI 6, 0, []) (WP cd_Wo_copies G R lm) ∧ WP cd_Wo_copies G R lm 16 = stp G R lm (44, 19, 37, 0, 0, 0, []) (WP cd_Wo_copies G R lm) ∧ WP cd_Wo_copies G R lm 19 = stp G R lm (2, 20, 0, 0, 0, 0, []) (WP cd_Wo_copies G R lm) ∧ WP cd_Wo_copies G R lm 20 = stp G R lm (58, 23, 6, 1, 0, 0, []) (WP cd_Wo_copies G R lm) ∧ WP cd_Wo_copies G R lm 23 = stp G R lm (1, 24, 2, 0, 0, 0, []) (WP cd_Wo_copies G R lm) ∧ WP cd_Wo_copies G R lm 24 = stp G R lm (2, 25, 1, 0, 0, 0, []) (WP cd_Wo_copies G R lm) ∧ WP cd_Wo_copies G R lm 25 = stp G R lm (58, 28, 6, 1, 0, 0, []) (WP cd_Wo_copies G R lm) ∧ WP cd_Wo_copies G R lm 28 = stp G R lm (1, 29, 2, 0, 0, 0, []) (WP cd_Wo_copies G R lm) ∧ WP cd_Wo_copies G R lm 29 = stp G R lm (65, 30, 0, 0, 0, 0, []) (WP cd_Wo_copies G R lm) ∧ WP cd_Wo_copies G R lm 30 = stp G R lm (69, 31, 0, 0, 0, 0, []) (WP cd_Wo_copies G R lm) ∧ WP cd_Wo_copies G R lm 31 = stp G R lm (11, 34, 2, 0, nI 1, 0, []) (WP cd_Wo_copies G R lm) ∧ WP cd_Wo_copies G R lm 34 = stp G R lm (40, 13, 0, 0, 0, 0, []) (WP cd_Wo_copies G R lm) ∧ WP cd_Wo_copies G R lm 38 = stp G R lm (58, 41, 6, 2, 0, 0, []) (WP cd_Wo_copies G R lm) ∧ WP cd_Wo_copies G R lm 41 = stp G R lm (7, 42, 0, 0, nI 0, 0, []) (WP cd_Wo_copies G R lm) ∧ WP cd_Wo_copies G R lm 42 = stp G R lm (2, 43, 0, 0, 0, 0, []) (WP cd_Wo_copies G R lm) ∧ WP cd_Wo_copies G R lm 43 = stp G R lm (58, 46, 6, 2, 0, 0, []) (WP cd_Wo_copies G R lm) ∧ WP cd_Wo_copies G R lm 46 = stp G R lm (7, 47, 0, 0, nI 0, 0, []) (WP cd_Wo_copies G R lm) ∧ WP cd_Wo_copies G R lm 47 = stp G R lm (7, 49, 0, 0, nI 6, 0, []) (WP cd_Wo_copies G R lm) ∧ WP cd_Wo_copies G R lm 49 = stp G R lm (78, 52, 0, 0, 0, 0, []) (WP cd_Wo_copies G R lm) ∧ WP cd_Wo_copies G R lm 52 = stp G R lm (2, 53, 1, 0, 0, 0, []) (WP cd_Wo_copies G R lm) ∧ WP cd_Wo_copies G R lm 53 = stp G R lm (58, 56, 6, 3, 0, 0, []) (WP cd_Wo_copies G R lm) ∧ WP cd_Wo_copies G R lm 56 = stp G R lm (7, 57, 0, 0, nI 0, 0, []) (WP cd_Wo_copies G R lm) ∧ WP cd_Wo_copies G R lm 57 = stp G R lm (2, 58, 0, 0, 0, 0, []) (WP cd_Wo_copies G R lm) ∧ WP cd_Wo_copies G R lm 58 = stp G R lm (58, 61, 6, 3, 0, 0, []) (WP cd_Wo_copies G R lm) ∧ WP cd_Wo_copies G R lm 61 = stp G R lm (7, 62, 0, 0, nI 0, 0, []) (WP cd_Wo_copies G R lm) ∧ WP cd_Wo_copies G R lm 62 = stp G R lm (7, 64, 0, 0, nI 6, 0, []) (WP cd_Wo_copies G R lm) ∧ WP cd_Wo_copies G R lm 64 = stp G R lm (78, 67, 0, 0, 0, 0, []) (WP cd_Wo_copies G R lm) ∧ WP cd_Wo_copies G R lm 67 = stp G R lm (2, 68, 0, 0, 0, 0, []) (WP cd_Wo_copies G R lm) ∧ WP cd_Wo_copies G R lm 68 = stp G R lm (2, 69, 1, 0, 0, 0, []) (WP cd_Wo_copies G R lm) ∧ WP cd_Wo_copies G R lm 69 = stp G R lm (56, 72, 6, 4, 0, 0, []) (WP cd_Wo_copies G R lm) ∧ WP cd_Wo_copies G R lm 72 = stp G R lm (59, 75, 6, 4, 0, 0, []) (WP cd_Wo_copies G R lm) ∧ WP cd_Wo_copies G R lm 75 = stp G R lm (2, 76, 0, 0, 0, 0, []) (WP cd_Wo_copies G R lm) ∧ WP cd_Wo_copies G R lm 76 = stp G R lm (2, 77, 1, 0, 0, 0, []) (WP cd_Wo_copies G R lm) ∧ WP cd_Wo_copies G R lm 77 = stp G R lm (56, 80, 6, 5, 0, 0, []) (WP cd_Wo_copies G R lm) ∧ WP cd_Wo_copies G R lm 80 = stp G R lm (59, 83, 6, 5, 0, 0, []) (WP cd_Wo_copies G R lm) ∧ WP cd_Wo_copies G R lm 83 = stp G R lm (2, 84, 0, 0, 0, 0, []) (WP cd_Wo_copies G R lm) ∧ WP cd_Wo_copies G R lm 84 = stp G R lm (2, 85, 1, 0, 0, 0, []) (WP cd_Wo_copies G R lm) ∧ WP cd_Wo_copies G R lm 85 = stp G R lm (56, 88, 6, 6, 0, 0, []) (WP cd_Wo_copies G R lm) ∧ WP cd_Wo_copies G R lm 88 = stp G R lm (59, 91, 6, 6, 0, 0, []) (WP cd_Wo_copies G R lm) ∧ WP cd_Wo_copies G R lm 91 = stp G R lm (2, 92, 0, 0, 0, 0, []) (WP cd_Wo_copies G R lm) ∧ WP cd_Wo_copies G R lm 92 = stp G R lm (2, 93, 1, 0, 0, 0, []) (WP cd_Wo_copies G R lm) ∧ WP cd_Wo_copies G R lm 93 = stp G R lm (56, 96, 6, 7, 0, 0, []) (WP cd_Wo_copies G R lm) ∧ WP cd_Wo_copies G R lm 96 = stp G R lm (59, 99, 6, 7, 0, 0, []) (WP cd_Wo_copies G R lm) ∧ WP cd_Wo_copies G R lm 99 = stp G R lm (2, 100, 0, 0, 0, 0, []) (WP cd_Wo_copies G R lm) ∧ WP cd_Wo_copies G R lm 100 = stp G R lm (2, 101, 1, 0, 0, 0, []) (WP cd_Wo_copies G R lm) ∧ WP cd_Wo_copies G R lm 101 = stp G R lm (56, 104, 6, 8, 0, 0, []) (WP cd_Wo_copies G R lm) ∧ WP cd_Wo_copies G R lm 104 = stp G R lm (59, 107, 6, 8, 0, 0, []) (WP cd_Wo_copies G R lm) ∧ WP cd_Wo_copies G R lm 107 = stp G R lm (84, 108, 0, 0, 0, 0, []) (WP cd_Wo_copies G R lm) := ⟨WP_eq hG rfl, WP_eq hG rfl, WP_eq hG rfl, WP_eq hG rfl, WP_eq hG rfl, WP_eq hG rfl, WP_eq hG rfl, WP_eq hG rfl, WP_eq hG rfl, WP_eq hG rfl, WP_eq hG rfl, WP_eq hG rfl, WP_eq hG rfl, WP_eq hG rfl, WP_eq hG rfl, WP_eq hG rfl, WP_eq hG rfl, WP_eq hG rfl, WP_eq hG rfl, WP_eq hG rfl, WP_eq hG rfl, WP_eq hG rfl, WP_eq hG rfl, WP_eq hG rfl, WP_eq hG rfl, WP_eq hG rfl, WP_eq hG rfl, WP_eq hG rfl, WP_eq hG rfl, WP_eq hG rfl, WP_eq hG rfl, WP_eq hG rfl, WP_eq hG rfl, WP_eq hG rfl, WP_eq hG rfl, WP_eq hG rfl, WP_eq hG rfl, WP_eq hG rfl, WP_eq hG rfl, WP_eq hG rfl, WP_eq hG rfl, WP_eq hG rfl, WP_eq hG rfl, WP_eq hG rfl, WP_eq hG rfl, WP_eq hG rfl, WP_eq hG rfl, WP_eq hG rfl, WP_eq hG rfl, WP_eq hG rfl, WP_eq hG rfl, WP_eq hG rfl, WP_eq hG rfl, WP_eq hG rfl, WP_eq hG rfl⟩
theorem sRA_id (h : MH) (a : Nat) : sRA h a (hra h a) = h := by
  obtain ⟨h1, h2, h3, h4, h5, h6, h7, h8, h9, h10, h11⟩ := h
  unfold sRA hra
  simp only [up1_id]
  rfl
theorem w_l_c (d W S : Nat) (h24 : 24 ≤ W) (hd : W + 13 < S ∨ S + 13 < W) {h : MH} (sW : WoS h W) (sS : WoS h S) (la : ∀ i, i < 6 → hra h (S + 11) i = none ∨ ∃ a, hra h (S + 11) i = some a ∧ hkd h a = 3) (Q : RT) (lm : Nat × Nat) : ∀ (m k : Nat) (f : Nat → Option Nat), k + m = 6 → (∀ j, j < k → f j = hra h (S + 11) j) → (∀ f' w2, (∀ j, j < 6 → f' j = hra h (S + 11) j) → WP cd_Wo_copies (callD d) Q lm 37 [] [some (.ref W), some (.ref S), w2] (sRA h (W + 11) f')) → WP cd_Wo_copies (callD d) Q lm 13 [] [some (.ref W), some (.ref S), some (.int (nI k))] (sRA h (W + 11) f)
  | 0, k, f, e, hf, K => by
    have Y := K f (some (.int (nI k))) (fun j hj => hf j (by omega))
    rw [U_Wo_copies_13 (cm _)]
    simp (disch := omega) only [UC_Wo_copies_37 (cm _), SA, SB, SC1, SC2, SG, SK, SV, leI, show 6 ≤ k by omega, true_or, or_true, true_implies, not_true_eq_false, not_false_eq_true, false_implies, true_and, and_true]
    exact Y
  | m + 1, k, f, e, hf, K => by
    obtain ⟨a1, a2, a3, a4, a5, -⟩ := id sW
    obtain ⟨b1, b2, b3, b4, b5, -⟩ := id sS
    have q1 : 24 ≤ W + 11 := by omega
    have q2 : rkd 24 = 3 := rfl
    have ih := w_l_c d W S h24 hd sW sS la Q lm m (k + 1) (up1 f k (hra h (S + 11) k)) (by omega) (fun j hj => by
      by_cases c : j = k
      · subst c; rw [up1_s]
      · rw [up1_n _ _ c]; exact hf j (by omega)) K
    rw [U_Wo_copies_13 (cm _)]
    rcases la k (by omega) with z | ⟨a, z, ka⟩
    · rw [z] at ih
      simp (disch := omega) only [UC_Wo_copies_37 (cm _), SA, SB, SC1, SC2, SG, SK, SV, a1, a3, a4, a5, b1, b3, b4, b5, q1, z, up1_s, up1_n, leI, show ¬ 6 ≤ k by omega, nI_add, nI_clamp, in_eq, Nat.reduceLeDiff, Nat.le_refl, true_or, or_true, true_implies, not_true_eq_false, not_false_eq_true, false_implies, true_and, and_true]
      exact ih
    · rw [z] at ih
      simp (disch := omega) only [UC_Wo_copies_37 (cm _), SA, SB, SC1, SC2, SG, SK, SV, a1, a3, a4, a5, b1, b3, b4, b5, q1, q2, z, ka, up1_s, up1_n, leI, show ¬ 6 ≤ k by omega, nI_add, nI_clamp, in_eq, Nat.reduceLeDiff, Nat.le_refl, true_or, or_true, true_implies, not_true_eq_false, not_false_eq_true, false_implies, true_and, and_true]
      exact ih
def wcA (h : MH) (W S : Nat) : MH := sIA h (W + 12) (va_cpy (hia h (S + 12)) (hia h (W + 12)) 0 0 6)
def wcB (h : MH) (W S : Nat) : MH := sIA h (W + 13) (va_cpy (hia h (S + 13)) (hia h (W + 13)) 0 0 6)
def wcF (h : MH) (W S : Nat) : MH := sFI h W (up1 (up1 (up1 (up1 (up1 (hfi h W) 4 (hfi h S 4)) 5 (hfi h S 5)) 6 (hfi h S 6)) 7 (hfi h S 7)) 8 (hfi h S 8))
theorem w_67 (d W S : Nat) (h24 : 24 ≤ W) (hd : W + 13 < S ∨ S + 13 < W) {h : MH} (kW : hkd h W = 6) (kS : hkd h S = 6) (Q : RT) (lm : Nat × Nat) (w2 : Option Value) : WP cd_Wo_copies (callD d) Q lm 67 [] [some (.ref W), some (.ref S), w2] h = Q none (wcF h W S) := by
  unfold wcF
  simp (disch := omega) only [U_Wo_copies (cm _), SA, SB, SC1, SC2, SG, SK, SV, kW, kS, h24, up1_s, up1_n, true_or, or_true, true_implies, not_true_eq_false, not_false_eq_true, false_implies, true_and, and_true]
set_option maxRecDepth 20000 in
theorem UC_Wo_copies_67 {G : GT} (hG : Gmono G) (R : RT) (lm : Nat × Nat) : WP cd_Wo_copies G R lm 0 = stp G R lm (2, 1, 0, 0, 0, 0, []) (WP cd_Wo_copies G R lm) ∧ WP cd_Wo_copies G R lm 1 = stp G R lm (58, 4, 6, 0, 0, 0, []) (WP cd_Wo_copies G R lm) ∧ WP cd_Wo_copies G R lm 4 = stp G R lm (2, 5, 1, 0, 0, 0, []) (WP cd_Wo_copies G R lm) ∧ WP cd_Wo_copies G R lm 5 = stp G R lm (58, 8, 6, 0, 0, 0, []) (WP cd_Wo_copies G R lm) ∧ WP cd_Wo_copies G R lm 8 = stp G R lm (86, 11, 17, 1, 0, 0, [2]) (WP cd_Wo_copies G R lm) ∧ WP cd_Wo_copies G R lm 11 = stp G R lm (7, 12, 0, 0, nI 0, 0, []) (WP cd_Wo_copies G R lm) ∧ WP cd_Wo_copies G R lm 12 = stp G R lm (4, 13, 2, 0, 0, 0, []) (WP cd_Wo_copies G R lm) ∧ WP cd_Wo_copies G R lm 14 = stp G R lm (7, 16, 0, 0, nI 6, 0, []) (WP cd_Wo_copies G R lm) ∧ WP cd_Wo_copies G R lm 16 = stp G R lm (44, 19, 37, 0, 0, 0, []) (WP cd_Wo_copies G R lm) ∧ WP cd_Wo_copies G R lm 19 = stp G R lm (2, 20, 0, 0, 0, 0, []) (WP cd_Wo_copies G R lm) ∧ WP cd_Wo_copies G R lm 20 = stp G R lm (58, 23, 6, 1, 0, 0, []) (WP cd_Wo_copies G R lm) ∧ WP cd_Wo_copies G R lm 23 = stp G R lm (1, 24, 2, 0, 0, 0, []) (WP cd_Wo_copies G R lm) ∧ WP cd_Wo_copies G R lm 24 = stp G R lm (2, 25, 1, 0, 0, 0, []) (WP cd_Wo_copies G R lm) ∧ WP cd_Wo_copies G R lm 25 = stp G R lm (58, 28, 6, 1, 0, 0, []) (WP cd_Wo_copies G R lm) ∧ WP cd_Wo_copies G R lm 28 = stp G R lm (1, 29, 2, 0, 0, 0, []) (WP cd_Wo_copies G R lm) ∧ WP cd_Wo_copies G R lm 29 = stp G R lm (65, 30, 0, 0, 0, 0, []) (WP cd_Wo_copies G R lm) ∧ WP cd_Wo_copies G R lm 30 = stp G R lm (69, 31, 0, 0, 0, 0, []) (WP cd_Wo_copies G R lm) ∧ WP cd_Wo_copies G R lm 31 = stp G R lm (11, 34, 2, 0, nI 1, 0, []) (WP cd_Wo_copies G R lm) ∧ WP cd_Wo_copies G R lm 34 = stp G R lm (40, 13, 0, 0, 0, 0, []) (WP cd_Wo_copies G R lm) ∧ WP cd_Wo_copies G R lm 37 = stp G R lm (2, 38, 1, 0, 0, 0, []) (WP cd_Wo_copies G R lm) ∧ WP cd_Wo_copies G R lm 38 = stp G R lm (58, 41, 6, 2, 0, 0, []) (WP cd_Wo_copies G R lm) ∧ WP cd_Wo_copies G R lm 41 = stp G R lm (7, 42, 0, 0, nI 0, 0, []) (WP cd_Wo_copies G R lm) ∧ WP cd_Wo_copies G R lm 42 = stp G R lm (2, 43, 0, 0, 0, 0, []) (WP cd_Wo_copies G R lm) ∧ WP cd_Wo_copies G R lm 43 = stp G R lm (58, 46, 6, 2, 0, 0, []) (WP cd_Wo_copies G R lm) ∧ WP cd_Wo_copies G R lm 46 = stp G R lm (7, 47, 0, 0, nI 0, 0, []) (WP cd_Wo_copies G R lm) ∧ WP cd_Wo_copies G R lm 47 = stp G R lm (7, 49, 0, 0, nI 6, 0, []) (WP cd_Wo_copies G R lm) ∧ WP cd_Wo_copies G R lm 49 = stp G R lm (78, 52, 0, 0, 0, 0, []) (WP cd_Wo_copies G R lm) ∧ WP cd_Wo_copies G R lm 52 = stp G R lm (2, 53, 1, 0, 0, 0, []) (WP cd_Wo_copies G R lm) ∧ WP cd_Wo_copies G R lm 53 = stp G R lm (58, 56, 6, 3, 0, 0, []) (WP cd_Wo_copies G R lm) ∧ WP cd_Wo_copies G R lm 56 = stp G R lm (7, 57, 0, 0, nI 0, 0, []) (WP cd_Wo_copies G R lm) ∧ WP cd_Wo_copies G R lm 57 = stp G R lm (2, 58, 0, 0, 0, 0, []) (WP cd_Wo_copies G R lm) ∧ WP cd_Wo_copies G R lm 58 = stp G R lm (58, 61, 6, 3, 0, 0, []) (WP cd_Wo_copies G R lm) ∧ WP cd_Wo_copies G R lm 61 = stp G R lm (7, 62, 0, 0, nI 0, 0, []) (WP cd_Wo_copies G R lm) ∧ WP cd_Wo_copies G R lm 62 = stp G R lm (7, 64, 0, 0, nI 6, 0, []) (WP cd_Wo_copies G R lm) ∧ WP cd_Wo_copies G R lm 64 = stp G R lm (78, 67, 0, 0, 0, 0, []) (WP cd_Wo_copies G R lm) ∧ WP cd_Wo_copies G R lm 68 = stp G R lm (2, 69, 1, 0, 0, 0, []) (WP cd_Wo_copies G R lm) ∧ WP cd_Wo_copies G R lm 69 = stp G R lm (56, 72, 6, 4, 0, 0, []) (WP cd_Wo_copies G R lm) ∧ WP cd_Wo_copies G R lm 72 = stp G R lm (59, 75, 6, 4, 0, 0, []) (WP cd_Wo_copies G R lm) ∧ WP cd_Wo_copies G R lm 75 = stp G R lm (2, 76, 0, 0, 0, 0, []) (WP cd_Wo_copies G R lm) ∧ WP cd_Wo_copies G R lm 76 = stp G R lm (2, 77, 1, 0, 0, 0, []) (WP cd_Wo_copies G R lm) ∧ WP cd_Wo_copies G R lm 77 = stp G R lm (56, 80, 6, 5, 0, 0, []) (WP cd_Wo_copies G R lm) ∧ WP cd_Wo_copies G R lm 80 = stp G R lm (59, 83, 6, 5, 0, 0, []) (WP cd_Wo_copies G R lm) ∧ WP cd_Wo_copies G R lm 83 = stp G R lm (2, 84, 0, 0, 0, 0, []) (WP cd_Wo_copies G R lm) ∧ WP cd_Wo_copies G R lm 84 = stp G R lm (2, 85, 1, 0, 0, 0, []) (WP cd_Wo_copies G R lm) ∧ WP cd_Wo_copies G R lm 85 = stp G R lm (56, 88, 6, 6, 0, 0, []) (WP cd_Wo_copies G R lm) ∧ WP cd_Wo_copies G R lm 88 = stp G R lm (59, 91, 6, 6, 0, 0, []) (WP cd_Wo_copies G R lm) ∧ WP cd_Wo_copies G R lm 91 = stp G R lm (2, 92, 0, 0, 0, 0, []) (WP cd_Wo_copies G R lm) ∧ WP cd_Wo_copies G R lm 92 = stp G R lm (2, 93, 1, 0, 0, 0, []) (WP cd_Wo_copies G R lm) ∧ WP cd_Wo_copies G R lm 93 = stp G R lm (56, 96, 6, 7, 0, 0, []) (WP cd_Wo_copies G R lm) ∧ WP cd_Wo_copies G R lm 96 = stp G R lm (59, 99, 6, 7, 0, 0, []) (WP cd_Wo_copies G R lm) ∧ WP cd_Wo_copies G R lm 99 = stp G R lm (2, 100, 0, 0, 0, 0, []) (WP cd_Wo_copies G R lm) ∧ WP cd_Wo_copies G R lm 100 = stp G R lm (2, 101, 1, 0, 0, 0, []) (WP cd_Wo_copies G R lm) ∧ WP cd_Wo_copies G R lm 101 = stp G R lm (56, 104, 6, 8, 0, 0, []) (WP cd_Wo_copies G R lm) ∧ WP cd_Wo_copies G R lm 104 = stp G R lm (59, 107, 6, 8, 0, 0, []) (WP cd_Wo_copies G R lm) ∧ WP cd_Wo_copies G R lm 107 = stp G R lm (84, 108, 0, 0, 0, 0, []) (WP cd_Wo_copies G R lm) := ⟨WP_eq hG rfl, WP_eq hG rfl, WP_eq hG rfl, WP_eq hG rfl, WP_eq hG rfl, WP_eq hG rfl, WP_eq hG rfl, WP_eq hG rfl, WP_eq hG rfl, WP_eq hG rfl, WP_eq hG rfl, WP_eq hG rfl, WP_eq hG rfl, WP_eq hG rfl, WP_eq hG rfl, WP_eq hG rfl, WP_eq hG rfl, WP_eq hG rfl, WP_eq hG rfl, WP_eq hG rfl, WP_eq hG rfl, WP_eq hG rfl, WP_eq hG rfl, WP_eq hG rfl, WP_eq hG rfl, WP_eq hG rfl, WP_eq hG rfl, WP_eq hG rfl, WP_eq hG rfl, WP_eq hG rfl, WP_eq hG rfl, WP_eq hG rfl, WP_eq hG rfl, WP_eq hG rfl, WP_eq hG rfl, WP_eq hG rfl, WP_eq hG rfl, WP_eq hG rfl, WP_eq hG rfl, WP_eq hG rfl, WP_eq hG rfl, WP_eq hG rfl, WP_eq hG rfl, WP_eq hG rfl, WP_eq hG rfl, WP_eq hG rfl, WP_eq hG rfl, WP_eq hG rfl, WP_eq hG rfl, WP_eq hG rfl, WP_eq hG rfl, WP_eq hG rfl, WP_eq hG rfl, WP_eq hG rfl, WP_eq hG rfl⟩
theorem w_37 (d W S : Nat) (h24 : 24 ≤ W) (s24 : 24 ≤ S) (hd : W + 13 < S ∨ S + 13 < W) {h : MH} (sW : WoS h W) (sS : WoS h S) (Q : RT) (lm : Nat × Nat) (w2 : Option Value) : WP cd_Wo_copies (callD d) Q lm 37 [] [some (.ref W), some (.ref S), w2] h = WP cd_Wo_copies (callD d) Q lm 67 [] [some (.ref W), some (.ref S), w2] (wcB (wcA h W S) W S) := by
  obtain ⟨a1, a2, a3, a4, a5, a6, a7, a8, a9, a10, a11⟩ := sW
  obtain ⟨b1, b2, b3, b4, b5, b6, b7, b8, b9, b10, b11⟩ := sS
  have q1 : 24 ≤ W + 12 := by omega
  have q2 : 24 ≤ S + 12 := by omega
  have q3 : 24 ≤ W + 13 := by omega
  have q4 : 24 ≤ S + 13 := by omega
  unfold wcB wcA
  simp (disch := omega) only [UC_Wo_copies_67 (cm _), SA, SB, SC1, SC2, SG, SK, SV, a1, a6, a7, a8, a9, a10, a11, b1, b6, b7, b8, b9, b10, b11, q1, q2, q3, q4, up1_s, up1_n, ltI, Nat.lt_irrefl, Nat.not_lt_zero, Nat.reduceLT, nI_clamp, Nat.reduceAdd, Nat.le_refl, Nat.reduceLeDiff, true_or, or_true, true_implies, not_true_eq_false, not_false_eq_true, false_implies, true_and, and_true]
def CW (h h' : MH) (W S : Nat) : Prop := (hsz h' = hsz h ∧ hcc h' = hcc h ∧ hcu h' = hcu h ∧ hkd h' = hkd h ∧ hln h' = hln h ∧ hfr h' = hfr h ∧ hja h' = hja h) ∧ (∀ a, a ≠ W → a ≠ W + 1 → hfi h' a = hfi h a) ∧ (∀ a, a ≤ W ∨ W + 13 < a → hia h' a = hia h a) ∧ (∀ a, a ≠ W + 11 → hra h' a = hra h a) ∧ (∀ i, i < 6 → hra h' (W + 11) i = hra h (S + 11) i) ∧ (∀ k, 4 ≤ k → k ≤ 8 → hfi h' W k = hfi h S k) ∧ ∀ i, i < 6 → hia h' (W + 12) i = hia h (S + 12) i ∧ hia h' (W + 13) i = hia h (S + 13) i
theorem ra_g (h : MH) (a : Nat) (f : Nat → Option Nat) : (hsz (sRA h a f) = hsz h ∧ hcc (sRA h a f) = hcc h ∧ hcu (sRA h a f) = hcu h ∧ hkd (sRA h a f) = hkd h ∧ hln (sRA h a f) = hln h ∧ hfr (sRA h a f) = hfr h ∧ hja (sRA h a f) = hja h) ∧ hfi (sRA h a f) = hfi h ∧ hia (sRA h a f) = hia h ∧ hra (sRA h a f) a = f ∧ ∀ b, b ≠ a → hra (sRA h a f) b = hra h b := ⟨⟨rfl, rfl, rfl, rfl, rfl, rfl, rfl⟩, rfl, rfl, up1_s (hra h) a f, fun b hb => up1_n (hra h) f hb⟩
theorem ia_g (h : MH) (a : Nat) (f : Nat → Int32) : (hsz (sIA h a f) = hsz h ∧ hcc (sIA h a f) = hcc h ∧ hcu (sIA h a f) = hcu h ∧ hkd (sIA h a f) = hkd h ∧ hln (sIA h a f) = hln h ∧ hfr (sIA h a f) = hfr h ∧ hja (sIA h a f) = hja h) ∧ hfi (sIA h a f) = hfi h ∧ hra (sIA h a f) = hra h ∧ hia (sIA h a f) a = f ∧ ∀ b, b ≠ a → hia (sIA h a f) b = hia h b := ⟨⟨rfl, rfl, rfl, rfl, rfl, rfl, rfl⟩, rfl, rfl, hia_s h a f, fun b hb => hia_n h f hb⟩
theorem fi_g (h : MH) (a : Nat) (f : Nat → Int32) : (hsz (sFI h a f) = hsz h ∧ hcc (sFI h a f) = hcc h ∧ hcu (sFI h a f) = hcu h ∧ hkd (sFI h a f) = hkd h ∧ hln (sFI h a f) = hln h ∧ hfr (sFI h a f) = hfr h ∧ hja (sFI h a f) = hja h) ∧ hia (sFI h a f) = hia h ∧ hra (sFI h a f) = hra h ∧ hfi (sFI h a f) a = f ∧ ∀ b, b ≠ a → hfi (sFI h a f) b = hfi h b := ⟨⟨rfl, rfl, rfl, rfl, rfl, rfl, rfl⟩, rfl, rfl, hfi_s h a f, fun b hb => hfi_nn h f hb⟩
theorem WoS_w {h h' : MH} {W : Nat} (e1 : hkd h' = hkd h) (e2 : hln h' = hln h) (e3 : hfr h' = hfr h) (s : WoS h W) : WoS h' W := by
  unfold WoS at *
  rw [e1, e2, e3]
  exact s
theorem w_copies (d W S : Nat) (h24 : 24 ≤ W) (s24 : 24 ≤ S) (hd : W + 13 < S ∨ S + 13 < W) {h : MH} {p : RW} (sW : WoS h W) (sS : WoS h S) (nW : NeS h (W + 1)) (nS : NeS h (S + 1)) (V : NeV h (S + 1) p) (q : QL p 420) (la : ∀ i, i < 6 → hra h (S + 11) i = none ∨ ∃ a, hra h (S + 11) i = some a ∧ hkd h a = 3) (Q : RT) (K : ∀ h', CW h h' W S → NeV h' (W + 1) p → Q none h') : callD (d + 2) 74 [.ref W, .ref S] h Q := by
  obtain ⟨a1, a2, -⟩ := id sW
  obtain ⟨b1, b2, -⟩ := id sS
  have n2 := nW.1
  rw [E_Wo_copies]
  simp (disch := omega) only [UC_Wo_copies_37 (cm _), SA, SB, SC1, SC2, SG, SK, SV, a1, a2, b1, b2, n2, true_or, or_true, true_implies, not_true_eq_false, not_false_eq_true, false_implies, true_and, and_true]
  refine y_copies d (S + 1) (W + 1) (by omega) nS V nW q _ (fun h1 X => ?_)
  obtain ⟨⟨⟨x1, x2, x3, x4, x5, x6, x7, x8, x9⟩, x10, x11⟩, -, V1⟩ := X
  have sW1 := WoS_w x4 x5 x7 sW
  have sS1 := WoS_w x4 x5 x7 sS
  have la1 : ∀ i, i < 6 → hra h1 (S + 11) i = none ∨ ∃ a, hra h1 (S + 11) i = some a ∧ hkd h1 a = 3 := by rw [x9, x4]; exact la
  simp (disch := omega) only [UC_Wo_copies_37 (cm _), SA, SB, SC1, SC2, SG, SK, SV, true_or, or_true, true_implies, not_true_eq_false, not_false_eq_true, false_implies, true_and, and_true]
  have L := fun lm K => w_l_c (d + 1) W S h24 hd sW1 sS1 la1 Q lm 6 0 (hra h1 (W + 11)) (by omega) (fun j hj => absurd hj (Nat.not_lt_zero j)) K
  rw [sRA_id] at L
  refine L _ (fun f' w2 hf => ?_)
  clear L
  obtain ⟨y1, y2, y3, y4, y5⟩ := ra_g h1 (W + 11) f'
  generalize sRA h1 (W + 11) f' = h2 at *
  have sW2 := WoS_w y1.2.2.2.1 y1.2.2.2.2.1 y1.2.2.2.2.2.1 sW1
  have sS2 := WoS_w y1.2.2.2.1 y1.2.2.2.2.1 y1.2.2.2.2.2.1 sS1
  rw [w_37 (d + 1) W S h24 s24 hd sW2 sS2]
  obtain ⟨z1, z2, z3, z4, z5⟩ := ia_g h2 (W + 12) (va_cpy (hia h2 (S + 12)) (hia h2 (W + 12)) 0 0 6)
  unfold wcA
  generalize sIA h2 (W + 12) (va_cpy (hia h2 (S + 12)) (hia h2 (W + 12)) 0 0 6) = h3 at *
  obtain ⟨u1, u2, u3, u4, u5⟩ := ia_g h3 (W + 13) (va_cpy (hia h3 (S + 13)) (hia h3 (W + 13)) 0 0 6)
  unfold wcB
  generalize sIA h3 (W + 13) (va_cpy (hia h3 (S + 13)) (hia h3 (W + 13)) 0 0 6) = h4 at *
  have kW4 : hkd h4 W = 6 := by rw [u1.2.2.2.1, z1.2.2.2.1]; exact sW2.1
  have kS4 : hkd h4 S = 6 := by rw [u1.2.2.2.1, z1.2.2.2.1]; exact sS2.1
  rw [w_67 (d + 1) W S h24 hd kW4 kS4]
  unfold wcF
  obtain ⟨v1, v2, v3, v4, v5⟩ := fi_g h4 W (up1 (up1 (up1 (up1 (up1 (hfi h4 W) 4 (hfi h4 S 4)) 5 (hfi h4 S 5)) 6 (hfi h4 S 6)) 7 (hfi h4 S 7)) 8 (hfi h4 S 8))
  generalize sFI h4 W (up1 (up1 (up1 (up1 (up1 (hfi h4 W) 4 (hfi h4 S 4)) 5 (hfi h4 S 5)) 6 (hfi h4 S 6)) 7 (hfi h4 S 7)) 8 (hfi h4 S 8)) = h5 at *
  have F4 : hfi h4 = hfi h1 := by rw [u2, z2, y2]
  have FS : hfi h4 S = hfi h S := by rw [F4, x10 S (by omega)]
  refine K h5 ⟨⟨?_, ?_, ?_, ?_, ?_, ?_, ?_⟩, fun a c1 c2 => ?_, fun a ca => ?_, fun a ca => ?_, fun i hi => ?_, fun k k1 k2 => ?_, fun i hi => ⟨?_, ?_⟩⟩ (NeV_a ?_ (fun a c1 c2 => ?_) V1)
  · rw [v1.1, u1.1, z1.1, y1.1, x1]
  · rw [v1.2.1, u1.2.1, z1.2.1, y1.2.1, x2]
  · rw [v1.2.2.1, u1.2.2.1, z1.2.2.1, y1.2.2.1, x3]
  · rw [v1.2.2.2.1, u1.2.2.2.1, z1.2.2.2.1, y1.2.2.2.1, x4]
  · rw [v1.2.2.2.2.1, u1.2.2.2.2.1, z1.2.2.2.2.1, y1.2.2.2.2.1, x5]
  · rw [v1.2.2.2.2.2.1, u1.2.2.2.2.2.1, z1.2.2.2.2.2.1, y1.2.2.2.2.2.1, x7]
  · rw [v1.2.2.2.2.2.2, u1.2.2.2.2.2.2, z1.2.2.2.2.2.2, y1.2.2.2.2.2.2, x8]
  · rw [v5 a c1, F4, x10 a c2]
  · rw [v2, u5 a (by omega), z5 a (by omega), y3, x11 a (by omega)]
  · rw [v3, u3, z3, y5 a ca, x9]
  · rw [v3, u3, z3, y4, hf i hi, x9]
  · rw [v4, FS]
    rcases (show k = 4 ∨ k = 5 ∨ k = 6 ∨ k = 7 ∨ k = 8 by omega) with rfl | rfl | rfl | rfl | rfl <;> simp (disch := omega) only [up1_s, up1_n]
  · rw [v2, u5 _ (by omega), z4, pk_cpy_in (by omega) (by omega), y3, x11 _ (by omega), Nat.zero_add, Nat.sub_zero]
  · rw [v2, u4, pk_cpy_in (by omega) (by omega), z5 _ (by omega), y3, x11 _ (by omega), Nat.zero_add, Nat.sub_zero]
  · rw [v5 _ (by omega), F4]
  · rw [v2, u5 a (by omega), z5 a (by omega), y3]
theorem TX_b {p q : RW} {f : Nat} {L : LWS} (e : ∀ x, 2022 ≤ x → x < 7422 → q x = p x) (t : TX p f L) : TX q f L := by
  obtain ⟨t1, t2, t3, t4, l, nc, t5, t6, t7⟩ := t
  refine ⟨t1, t2, t3, (e _ (by omega) (by omega)).trans t4, l, nc, t5, fun k hk => ?_, fun i hi => ?_⟩
  · obtain ⟨o, b, o1, o2, o3, o4, o5, o6⟩ := t6 k hk
    exact ⟨o, b, o1, o2, o3, (e _ (by omega) (by omega)).trans o4, (e _ (by omega) (by omega)).trans o5, o6⟩
  · obtain ⟨c1, c2, s0, s1, u0, u1, e1, e2, e3, e4, r⟩ := t7 i hi
    exact ⟨c1, (e _ (by omega) (by omega)).trans c2, s0, s1, u0, u1, (e _ (by omega) (by omega)).trans e1, (e _ (by omega) (by omega)).trans e2, (e _ (by omega) (by omega)).trans e3, (e _ (by omega) (by omega)).trans e4, r⟩
theorem WV_cp {h h' : MH} {W S : Nat} {p q : RW} (c : CW h h' W S) (V1 : NeV h' (W + 1) p) (hq : ∀ x, x < 7422 → q x = p x) (hW : W + 13 < 300) (w : WV h S p) : WV h' W q := by
  obtain ⟨⟨c1, c2, c3, c4, c5, c6, c7⟩, c8, c9, c10, c11, c12, c13⟩ := c
  obtain ⟨-, iv, ⟨w4, w5, w6, w7, w8⟩, ⟨nl, l1, l2, l3, l4⟩, ⟨ns, n1, n2, n3⟩, ⟨md, m1, m2⟩, ⟨sl, s1, s2⟩⟩ := w
  have hr : ∀ j, 5 ≤ j → j < 1754 → q j = p j := fun j _ h2 => hq j (by omega)
  refine ⟨NeV_c hr iv.q V1, IV_c hr iv, ?_, ⟨nl, l1, (hq 1 (by omega)).trans l2, by rw [hq 2 (by omega)]; exact l3, fun i hi => ?_⟩, ⟨ns, n1, (hq 0 (by omega)).trans n2, fun i hi => ?_⟩, ⟨md, m1, (hq 4 (by omega)).trans m2⟩, ⟨sl, s1, (hq 3 (by omega)).trans s2⟩⟩
  · rw [c12 4 (by omega) (by omega), c12 5 (by omega) (by omega), c12 6 (by omega) (by omega), c12 7 (by omega) (by omega), c12 8 (by omega) (by omega), hq 0 (by omega), hq 1 (by omega), hq 2 (by omega), hq 3 (by omega), hq 4 (by omega)]
    exact ⟨w4, w5, w6, w7, w8⟩
  · obtain ⟨a, L, y1, y2, y3, y4, y5⟩ := l4 i hi
    exact ⟨a, L, by rw [c11 i (by omega)]; exact y1, y2, by omega, PXh_a (fun x h1 h2 => ⟨by rw [c4], by rw [c5], by rw [c6], c8 x (by omega) (by omega), c9 x (by omega)⟩) y4, TX_b (fun x _ hx => hq x hx) y5⟩
  · obtain ⟨k1, k2⟩ := c13 i (by omega)
    rw [k1, k2, hq _ (by omega), hq _ (by omega)]
    exact n3 i hi
theorem XS_w {h h' : MH} (e1 : hkd h' = hkd h) (e2 : hln h' = hln h) (e3 : hfr h' = hfr h) (e4 : hra h' 41 = hra h 41) (e5 : hra h' 39 = hra h 39) (s : XS h) : XS h' := by
  obtain ⟨s1, s2, s3, s4, s5, s6, s7, s8⟩ := s
  have N : ∀ n, NeS h n → NeS h' n := fun n s => by
    unfold NeS AF at *
    rw [e1, e2, e3]
    exact s
  refine ⟨?_, ?_, ?_, ?_, ?_, ⟨N _ s6.1, N _ s6.2.1, N _ s6.2.2.1, N _ s6.2.2.2.1, N _ s6.2.2.2.2⟩, fun i hi => ⟨N _ (s7 i hi).1, by rw [e4]; exact (s7 i hi).2⟩, by rw [e5]; exact s8⟩
  · unfold XSo at *; rw [e1, e2, e3]; exact s1
  · unfold XSr at *; rw [e1, e2, e3]; exact s2
  · unfold XSh at *; rw [e1, e2, e3]; exact s3
  · unfold JS at *; rw [e1, e2, e3]; exact s4
  · unfold WoS at *; rw [e1, e2, e3]; exact s5
theorem MoS_w {h h' : MH} (e1 : hkd h' = hkd h) (e2 : hln h' = hln h) (e3 : hfr h' = hfr h) (s : MoS h) : MoS h' := by
  unfold MoS AF at *
  rw [e1, e2, e3]
  exact s
def PairL (k x m : Nat) (args : List Value) : Prop := ∀ (d : Nat) (h : MH), GI h → LA h → callD (d + k) x (.ref 24 :: args) h (fun r h1 => ∃ v, r = some v ∧ callD (d + k) m (.ref 273 :: args) h1 (fun r2 h2 => r2 = some v ∧ Pst h h2))
theorem PairOp.L {k x m : Nat} {args : List Value} (p : PairOp k x m args) : PairL k x m args := fun d h g _ => p d h g
