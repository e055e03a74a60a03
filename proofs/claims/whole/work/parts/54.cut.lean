/-! ===== a router is cut ===== -/
def mCutT (p : RW) (r : Nat) (s : Int32) : RW := itr (fun p o => if bt s o = nI 1 then up1 p (56 + 7 * r + o) (nI 9999) else p) 0 7 p
def mCut (p : RW) (r : Nat) : RW := mEnds (up1 (up1 (mCutT p r (gR p r 4)) (105 + 7 * r + 4) (nI 0)) (105 + 7 * r + 6) (nI 0)) r
theorem cutT_n (r : Nat) (s : Int32) {j : Nat} (hr : r < 7) (h : j < 56 ∨ 105 ≤ j) : ∀ (m i : Nat) (p : RW), i + m ≤ 7 → itr (fun p o => if bt s o = nI 1 then up1 p (56 + 7 * r + o) (nI 9999) else p) i m p j = p j
  | 0, _, _, _ => rfl
  | m + 1, i, p, hi => by
    rw [itr_s, cutT_n r s hr h m (i + 1) _ (by omega)]
    split
    · rw [up1_n _ _ (by omega)]
    · rfl
theorem y_l_cuts (d n r : Nat) (hr : r < 7) (s : Int32) {h0 : MH} (Q : RT) (lm : Nat × Nat) : ∀ (m k : Nat) (h : MH) (p : RW), XN h0 n h p → k + m = 7 → (∀ h', XN h0 n h' (itr (fun p o => if bt s o = nI 1 then up1 p (56 + 7 * r + o) (nI 9999) else p) k m p) → WP cd_Ne_cuts (callD (d + 1)) Q lm 44 [] [some (.ref n), some (.int (nI r)), some (.int s), some (.int (nI 7))] h') → WP cd_Ne_cuts (callD (d + 1)) Q lm 9 [] [some (.ref n), some (.int (nI r)), some (.int s), some (.int (nI k))] h
  | 0, k, h, p, X, hk, kk => by
    obtain rfl : k = 7 := by omega
    have Y := kk h X
    rw [U_Ne_cuts_9 (cm _)]
    simp (disch := omega) only [U_Ne_cuts (cm _), SA, SB, SC1, SC2, SG, SV, leI, Nat.le_refl, true_implies, not_true_eq_false, false_implies, and_true] at Y ⊢
    exact Y
  | m + 1, k, h, p, X, hk, kk => by
    obtain ⟨sh, h24⟩ := X.2.1.all
    have n2 : 24 ≤ n + 2 := by omega
    have hk7 : ¬ 7 ≤ k := by omega
    rw [itr_s] at kk
    rw [U_Ne_cuts_9 (cm _)]
    by_cases c : bt s k = nI 1
    · rw [if_pos c] at kk
      have ih := y_l_cuts d n r hr s Q lm m (k + 1) _ _ (X.tol hr (by omega) (nI 9999)) (by omega) kk
      simp (disch := omega) only [U_Ne_cuts (cm _), SA, SB, SC1, SC2, SG, SV, leI, hk7, sh, n2, e_bit, c, pk_mul, nI_add, nI_clamp, in_eq, true_implies, not_true_eq_false, not_false_eq_true, false_implies, and_true, true_and]
      exact ih
    · rw [if_neg c] at kk
      have ih := y_l_cuts d n r hr s Q lm m (k + 1) h p X (by omega) kk
      simp (disch := omega) only [U_Ne_cuts (cm _), SA, SB, SC1, SC2, SG, SV, leI, hk7, e_bit, c, nI_add, true_implies, not_true_eq_false, not_false_eq_true, false_implies, and_true, true_and]
      exact ih
theorem l_cutNow (d r : Nat) (hr : r < 7) (a s : Int32) (Q : RT) (lm : Nat × Nat) : ∀ (m k : Nat) (h : MH), MoS h → k + m = 7 → WP cd_Mo_cutNow (callD (d + 1)) Q lm 46 [] [some (.ref 273), some (.int (nI r)), some (.int a), some (.int s), some (.int (nI k))] h = WP cd_Mo_cutNow (callD (d + 1)) Q lm 86 [] [some (.ref 273), some (.int (nI r)), some (.int a), some (.int s), some (.int (nI 7))] (sIA h 275 (itr (fun p o => if bt s o = nI 1 then up1 p (56 + 7 * r + o) (nI 9999) else p) k m (hia h 275)))
  | 0, k, h, hM, hk => by
    obtain rfl : k = 7 := by omega
    rw [itr_0, id_275, U_Mo_cutNow_46 (cm _)]
    simp (disch := omega) only [U_Mo_cutNow (cm _), SA, SB, SG, SV, leI, Nat.le_refl, true_implies, not_true_eq_false, false_implies, and_true]
  | m + 1, k, h, hM, hk => by
    obtain ⟨m1, m2, m3, m4⟩ := hM.row
    have hk7 : ¬ 7 ≤ k := by omega
    rw [U_Mo_cutNow_46 (cm _), itr_s]
    by_cases c : bt s k = nI 1
    · rw [if_pos c]
      have ih := l_cutNow d r hr a s Q lm m (k + 1) (sIA h 275 (up1 (hia h 275) (56 + 7 * r + k) (nI 9999))) hM (by omega)
      rw [hia_s, SK.2.2.2.1] at ih
      simp (disch := omega) only [U_Mo_cutNow (cm _), SA, SB, SC1, SC2, SG, SV, SK, leI, hk7, m1, m2, m3, m4, e_is, b01, c, eqI, Nat.one_ne_zero, if_true, pk_mul, nI_add, nI_clamp, in_eq, Nat.reduceLeDiff, true_implies, not_true_eq_false, not_false_eq_true, false_implies, and_true, true_and, ih]
    · rw [if_neg c]
      have ih := l_cutNow d r hr a s Q lm m (k + 1) h hM (by omega)
      simp (disch := omega) only [U_Mo_cutNow (cm _), SA, SB, SC1, SC2, SG, SV, SK, leI, hk7, e_is, b01, c, if_false, nI_add, true_implies, not_true_eq_false, not_false_eq_true, false_implies, and_true, true_and, ih]
