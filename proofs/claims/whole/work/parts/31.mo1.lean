/-! ===== the reference: small methods ===== -/
theorem e_routerAt (d r : Nat) (hr : r < 1000) (h : MH) (Q : RT) : callD (d + 1) 142 [.int (nI r)] h Q = Q (some (.int (nI (105 + 7 * r)))) h := by
  rw [E_Mo_routerAt]
  simp only [U_Mo_routerAt (cm _), SA, SB, SC1, SC2, SG, SV, pk_mul, nI_add]
theorem e_messageAt (d r : Nat) (h : MH) (Q : RT) : callD (d + 1) 154 [.int (nI r)] h Q = Q (some (.int (nI (154 + 4 * r)))) h := by
  rw [E_Mo_messageAt]
  simp only [U_Mo_messageAt (cm _), SA, SB, SC1, SC2, SG, SV, pk_mul, nI_add]
theorem e_is (d : Nat) (x : Int32) (k : Nat) (h : MH) (Q : RT) : callD (d + 1) 131 [.int x, .int (nI k)] h Q = Q (some (.int (b01 (bt x k = nI 1)))) h := by
  rw [E_Mo_is]
  by_cases hc : bt x k = nI 1 <;> unfold bt at hc <;> simp only [U_Mo_is (cm _), SA, SB, SC1, SC2, SG, SV, b01, bt, hc, if_true, if_false, not_true_eq_false, not_false_eq_true, true_implies, false_implies, and_true, true_and, eqI (a := 0) (b := 1), eqI (a := 1) (b := 0), or_true, true_or]
theorem e_cost (d r o : Nat) (hr : r < 7) (ho : o < 7) {h : MH} (hM : MoS h) (Q : RT) : callD (d + 1) 145 [.ref 273, .int (nI r), .int (nI o)] h Q = Q (some (.int (gC (hia h 275) r o))) h := by
  obtain ⟨m1, m2, m3, m4⟩ := hM.row
  rw [E_Mo_cost]
  simp (disch := omega) only [U_Mo_cost (cm _), SA, SB, SC1, SC2, SG, SV, pk_mul, nI_add, nI_clamp, in_eq, m1, m2, m3, m4, true_and, gC]
theorem e_by (d r o : Nat) (hr : r < 7) (ho : o < 7) {h : MH} (hM : MoS h) (Q : RT) : callD (d + 2) 147 [.ref 273, .int (nI r), .int (nI o)] h Q = Q (some (.int (mBy (hia h 275) r o))) h := by
  obtain ⟨m1, m2, m3, m4⟩ := hM.row
  rw [E_Mo_by]
  simp (disch := first | omega | exact hM) only [U_Mo_by (cm _), SA, SB, SC1, SC2, SG, SV, pk_mul, nI_add, nI_clamp, in_eq, m1, m2, m3, m4, true_and, e_cost, mBy, gT]
  by_cases hc : gC (hia h 275) r o = nI 0
  · simp only [hc, true_or, if_true, true_implies, not_true_eq_false, false_implies, and_true]
  · by_cases hd : nI 9999 < hia h 275 (56 + 7 * r + o) + gC (hia h 275) r o
    · have hd' : ¬ hia h 275 (56 + 7 * r + o) + gC (hia h 275) r o ≤ nI 9999 := Int32.not_le.mpr hd
      simp only [hc, hd, hd', or_true, if_true, true_implies, not_true_eq_false, not_false_eq_true, false_implies, and_true, true_and]
    · have hd' : hia h 275 (56 + 7 * r + o) + gC (hia h 275) r o ≤ nI 9999 := Int32.not_lt.mp hd
      simp only [hc, hd, hd', or_false, if_false, true_implies, not_true_eq_false, not_false_eq_true, false_implies, and_true, true_and]
theorem e_isFeasible (d r o : Nat) (hr : r < 7) (ho : o < 7) {h : MH} (hM : MoS h) (Q : RT) : callD (d + 2) 148 [.ref 273, .int (nI r), .int (nI o)] h Q = Q (some (.int (if mFeas (hia h 275) r o then nI 1 else nI 0))) h := by
  obtain ⟨m1, m2, m3, m4⟩ := hM.row
  rw [E_Mo_isFeasible]
  simp (disch := first | omega | exact hM) only [U_Mo_isFeasible (cm _), SA, SB, SC1, SC2, SG, SV, pk_mul, nI_add, nI_clamp, in_eq, m1, m2, m3, m4, true_and, e_cost, e_routerAt, true_or, or_true, and_true]
  by_cases hc : nI 0 < gC (hia h 275) r o
  · have hc' : ¬ gC (hia h 275) r o ≤ nI 0 := Int32.not_le.mpr hc
    by_cases hd : gT (hia h 275) r o < gR (hia h 275) r 1
    · have hd' : ¬ gR (hia h 275) r 1 ≤ gT (hia h 275) r o := Int32.not_le.mpr hd
      rw [if_pos ⟨hc, hd⟩]
      unfold gR gT at hd'
      simp only [hc', hd', true_implies, not_true_eq_false, not_false_eq_true, false_implies, and_true, true_and]
    · have hd' : gR (hia h 275) r 1 ≤ gT (hia h 275) r o := Int32.not_lt.mp hd
      rw [if_neg (fun q => hd q.2)]
      unfold gR gT at hd'
      simp only [hc', hd', true_implies, not_true_eq_false, not_false_eq_true, false_implies, and_true, true_and]
  · have hc' : gC (hia h 275) r o ≤ nI 0 := Int32.not_lt.mp hc
    rw [if_neg (fun q => hc q.1)]
    simp only [hc', true_implies, not_true_eq_false, not_false_eq_true, false_implies, and_true, true_and]
theorem l_leastBy (d r : Nat) (hr : r < 7) {h : MH} (hM : MoS h) (Q : RT) (lm : Nat × Nat) : ∀ (m k : Nat) (x : Int32), k + m = 7 → WP cd_Mo_leastBy (callD (d + 2)) Q lm 6 [] [some (.ref 273), some (.int (nI r)), some (.int x), some (.int (nI k))] h = Q (some (.int (itr (fun x o => if mBy (hia h 275) r o < x then mBy (hia h 275) r o else x) k m x))) h
  | 0, k, x, hk => by
    obtain rfl : k = 7 := by omega
    rw [U_Mo_leastBy_6 (cm _)]
    simp (disch := omega) only [U_Mo_leastBy (cm _), SA, SB, SG, SV, leI, itr_0, Nat.le_refl, true_implies, not_true_eq_false, false_implies, and_true]
  | m + 1, k, x, hk => by
    have hk7 : ¬ 7 ≤ k := by omega
    rw [U_Mo_leastBy_6 (cm _), itr_s]
    by_cases hc : mBy (hia h 275) r k < x
    · have hc' : ¬ x ≤ mBy (hia h 275) r k := Int32.not_le.mpr hc
      simp (disch := first | omega | exact hM) only [U_Mo_leastBy (cm _), SA, SB, SC1, SC2, SG, SV, leI, hk7, hM.1, e_by, hc, hc', nI_add, true_implies, not_true_eq_false, not_false_eq_true, false_implies, and_true, true_and, if_true, l_leastBy d r hr hM Q lm m (k + 1) _ (by omega)]
    · have hc' : x ≤ mBy (hia h 275) r k := Int32.not_lt.mp hc
      simp (disch := first | omega | exact hM) only [U_Mo_leastBy (cm _), SA, SB, SC1, SC2, SG, SV, leI, hk7, hM.1, e_by, hc, hc', nI_add, true_implies, not_true_eq_false, not_false_eq_true, false_implies, and_true, true_and, if_false, l_leastBy d r hr hM Q lm m (k + 1) _ (by omega)]
theorem e_leastBy (d r : Nat) (hr : r < 7) {h : MH} (hM : MoS h) (Q : RT) : callD (d + 3) 149 [.ref 273, .int (nI r)] h Q = Q (some (.int (mLeast (hia h 275) r))) h := by
  rw [E_Mo_leastBy]
  simp only [U_Mo_leastBy (cm _), SA, SB, SG, SV, l_leastBy d r hr hM Q _ 7 0 _ rfl, mLeast]
