theorem sIA_id (h : MH) (a : Nat) : sIA h a (hia h a) = h := by
  have e : up1 (hia h) a (hia h a) = hia h := by funext j; unfold up1; split <;> simp_all
  unfold sIA; rw [e]; rfl
theorem l_neighbours (d r : Nat) (hr : r < 7) {h : MH} (hM : MoS h) (Q : RT) (lm : Nat × Nat) : ∀ (m k : Nat) (x : Int32), k + m = 7 → WP cd_Mo_neighbours (callD (d + 1)) Q lm 4 [] [some (.ref 273), some (.int (nI r)), some (.int x), some (.int (nI k))] h = Q (some (.int (itr (fun x o => x ||| (if nI 0 < gC (hia h 275) r o then sh1 o else nI 0)) k m x))) h
  | 0, k, x, hk => by
    obtain rfl : k = 7 := by omega
    rw [U_Mo_neighbours_4 (cm _)]
    simp (disch := omega) only [U_Mo_neighbours (cm _), SA, SB, SG, SV, leI, itr_0, Nat.le_refl, true_implies, not_true_eq_false, false_implies, and_true]
  | m + 1, k, x, hk => by
    have hk7 : ¬ 7 ≤ k := by omega
    rw [U_Mo_neighbours_4 (cm _), itr_s]
    by_cases hc : nI 0 < gC (hia h 275) r k
    · have hc' : ¬ gC (hia h 275) r k ≤ nI 0 := Int32.not_le.mpr hc
      simp (disch := first | omega | exact hM) only [U_Mo_neighbours (cm _), SA, SB, SC1, SC2, SG, SV, leI, hk7, hM.1, e_cost, hc, hc', nI_add, true_implies, not_true_eq_false, not_false_eq_true, false_implies, and_true, true_and, if_true, l_neighbours d r hr hM Q lm m (k + 1) _ (by omega), sh1]
    · have hc' : gC (hia h 275) r k ≤ nI 0 := Int32.not_lt.mp hc
      simp (disch := first | omega | exact hM) only [U_Mo_neighbours (cm _), SA, SB, SC1, SC2, SG, SV, leI, hk7, hM.1, e_cost, hc, hc', nI_add, true_implies, not_true_eq_false, not_false_eq_true, false_implies, and_true, true_and, if_false, l_neighbours d r hr hM Q lm m (k + 1) _ (by omega)]
theorem e_neighbours (d r : Nat) (hr : r < 7) {h : MH} (hM : MoS h) (Q : RT) : callD (d + 2) 146 [.ref 273, .int (nI r)] h Q = Q (some (.int (mNb (hia h 275) r))) h := by
  rw [E_Mo_neighbours]
  simp only [U_Mo_neighbours (cm _), SA, SB, SG, SV, l_neighbours d r hr hM Q _ 7 0 _ rfl, mNb]
theorem l_many (d : Nat) (y : Int32) {h : MH} (Q : RT) (lm : Nat × Nat) : ∀ (m k : Nat) (x : Int32), k + m = 7 → WP cd_Mo_many (callD d) Q lm 4 [] [some (.int y), some (.int x), some (.int (nI k))] h = Q (some (.int (itr (fun n k => n + bt y k) k m x))) h
  | 0, k, x, hk => by
    obtain rfl : k = 7 := by omega
    rw [U_Mo_many_4 (cm _)]
    simp (disch := omega) only [U_Mo_many (cm _), SA, SB, SG, SV, leI, itr_0, Nat.le_refl, true_implies, not_true_eq_false, false_implies, and_true]
  | m + 1, k, x, hk => by
    have hk7 : ¬ 7 ≤ k := by omega
    rw [U_Mo_many_4 (cm _), itr_s]
    simp (disch := omega) only [U_Mo_many (cm _), SA, SB, SG, SV, leI, hk7, nI_add, true_implies, not_true_eq_false, not_false_eq_true, false_implies, and_true, true_and, bt, l_many d y Q lm m (k + 1) _ (by omega)]
theorem e_many (d : Nat) (y : Int32) {h : MH} (Q : RT) : callD (d + 1) 132 [.int y] h Q = Q (some (.int (mMany y))) h := by
  rw [E_Mo_many]
  simp only [U_Mo_many (cm _), SA, SB, SG, SV, l_many d y Q _ 7 0 _ rfl, mMany]
theorem l_best (d r : Nat) (hr : r < 7) {h : MH} (hM : MoS h) (Q : RT) (lm : Nat × Nat) (v : Int32) : ∀ (m : Nat) (x : Int32), m ≤ 7 → WP cd_Mo_best (callD (d + 2)) Q lm 12 [] [some (.ref 273), some (.int (nI r)), some (.int v), some (.int x), some (.int (dn m))] h = Q (some (.int (itd (fun x o => if v < nI 9999 ∧ mBy (hia h 275) r o = v ∧ mFeas (hia h 275) r o then nI o else x) m x))) h
  | 0, x, hk => by
    rw [U_Mo_best_12 (cm _)]
    simp (disch := omega) only [U_Mo_best (cm _), SA, SB, SG, SV, dn_0, m1_lt0, itd_0, true_implies, not_true_eq_false, false_implies, and_true]
  | m + 1, x, hk => by
    have hm0 : ¬ m < 0 := by omega
    rw [U_Mo_best_12 (cm _), itd_s]
    have ih := fun y => l_best d r hr hM Q lm v m y (by omega)
    by_cases h1 : v < nI 9999
    · have h1' : ¬ nI 9999 ≤ v := Int32.not_le.mpr h1
      by_cases h2 : mBy (hia h 275) r m = v
      · by_cases h3 : mFeas (hia h 275) r m
        · rw [if_pos ⟨h1, h2, h3⟩]
          simp (disch := first | omega | exact hM) only [U_Mo_best (cm _), SA, SB, SC1, SC2, SG, SV, dn_1, ltI, hm0, hM.1, h1', h2, e_by, e_isFeasible, if_pos h3, dn_s, eqI, Nat.one_ne_zero, true_implies, not_true_eq_false, not_false_eq_true, false_implies, and_true, true_and, ih]
        · rw [if_neg (fun q => h3 q.2.2)]
          simp (disch := first | omega | exact hM) only [U_Mo_best (cm _), SA, SB, SC1, SC2, SG, SV, dn_1, ltI, hm0, hM.1, h1', h2, e_by, e_isFeasible, if_neg h3, dn_s, true_implies, not_true_eq_false, not_false_eq_true, false_implies, and_true, true_and, ih]
      · rw [if_neg (fun q => h2 q.2.1)]
        simp (disch := first | omega | exact hM) only [U_Mo_best (cm _), SA, SB, SC1, SC2, SG, SV, dn_1, ltI, hm0, hM.1, h1', h2, e_by, dn_s, true_implies, not_true_eq_false, not_false_eq_true, false_implies, and_true, true_and, ih]
    · have h1' : nI 9999 ≤ v := Int32.not_lt.mp h1
      rw [if_neg (fun q => h1 q.1)]
      simp (disch := first | omega | exact hM) only [U_Mo_best (cm _), SA, SB, SC1, SC2, SG, SV, dn_1, ltI, hm0, h1', dn_s, true_implies, not_true_eq_false, not_false_eq_true, false_implies, and_true, true_and, ih]
theorem e_best (d r : Nat) (hr : r < 7) {h : MH} (hM : MoS h) (Q : RT) : callD (d + 4) 150 [.ref 273, .int (nI r)] h Q = Q (some (.int (mBest (hia h 275) r))) h := by
  rw [E_Mo_best]
  simp (disch := first | omega | exact hM) only [U_Mo_best (cm _), SA, SB, SC1, SC2, SG, SV, e_leastBy, hM.1, true_and]
  exact l_best (d + 1) r hr hM Q _ _ 7 _ (by omega)
theorem l_lowestBy (d r : Nat) (hr : r < 7) {h : MH} (hM : MoS h) (Q : RT) (lm : Nat × Nat) (v : Int32) : ∀ (m : Nat) (x : Int32), m ≤ 7 → WP cd_Mo_lowestBy (callD (d + 2)) Q lm 6 [] [some (.ref 273), some (.int (nI r)), some (.int v), some (.int x), some (.int (dn m))] h = Q (some (.int (itd (fun x o => if v < nI 9999 ∧ mBy (hia h 275) r o = v then nI o else x) m x))) h
  | 0, x, hk => by
    rw [U_Mo_lowestBy_6 (cm _)]
    simp (disch := omega) only [U_Mo_lowestBy (cm _), SA, SB, SG, SV, dn_0, m1_lt0, itd_0, true_implies, not_true_eq_false, false_implies, and_true]
  | m + 1, x, hk => by
    have hm0 : ¬ m < 0 := by omega
    rw [U_Mo_lowestBy_6 (cm _), itd_s]
    have ih := fun y => l_lowestBy d r hr hM Q lm v m y (by omega)
    by_cases h1 : v < nI 9999
    · have h1' : ¬ nI 9999 ≤ v := Int32.not_le.mpr h1
      by_cases h2 : mBy (hia h 275) r m = v
      · rw [if_pos ⟨h1, h2⟩]
        simp (disch := first | omega | exact hM) only [U_Mo_lowestBy (cm _), SA, SB, SC1, SC2, SG, SV, dn_1, ltI, hm0, hM.1, h1', h2, e_by, dn_s, true_implies, not_true_eq_false, not_false_eq_true, false_implies, and_true, true_and, ih]
      · rw [if_neg (fun q => h2 q.2)]
        simp (disch := first | omega | exact hM) only [U_Mo_lowestBy (cm _), SA, SB, SC1, SC2, SG, SV, dn_1, ltI, hm0, hM.1, h1', h2, e_by, dn_s, true_implies, not_true_eq_false, not_false_eq_true, false_implies, and_true, true_and, ih]
    · have h1' : nI 9999 ≤ v := Int32.not_lt.mp h1
      rw [if_neg (fun q => h1 q.1)]
      simp (disch := first | omega | exact hM) only [U_Mo_lowestBy (cm _), SA, SB, SC1, SC2, SG, SV, dn_1, ltI, hm0, h1', dn_s, true_implies, not_true_eq_false, not_false_eq_true, false_implies, and_true, true_and, ih]
theorem e_lowestBy (d r : Nat) (hr : r < 7) (v : Int32) {h : MH} (hM : MoS h) (Q : RT) : callD (d + 3) 205 [.ref 273, .int (nI r), .int v] h Q = Q (some (.int (mLow (hia h 275) r v))) h := by
  rw [E_Mo_lowestBy]
  simp only [U_Mo_lowestBy (cm _), SA, SB, SG, SV]
  exact l_lowestBy d r hr hM Q _ v 7 _ (by omega)
theorem ql_of {p : RW} {n : Nat} (hq : p 6 = nI n) (hn : n < 2 ^ 31) : ql p = n := by unfold ql; rw [hq, nI_clamp hn]
theorem e_send (d f : Nat) (hf : f < 7) (k t : Int32) {h : MH} (hM : MoS h) {n : Nat} (hq : hia h 275 6 = nI n) (hn : n ≤ 460) (Q : RT) : callD (d + 2) 200 [.ref 273, .int k, .int (nI f), .int t] h Q = Q none (sIA h 275 (mSend (hia h 275) k (nI f) t f)) := by
  obtain ⟨m1, m2, m3, m4⟩ := hM.row
  have hl := ql_of hq (by omega)
  rw [E_Mo_send]
  simp (disch := first | omega | exact hM) only [U_Mo_send (cm _), SA, SB, SC1, SC2, SG, SV, SK, pk_mul, nI_add, nI_clamp, in_eq, m1, m2, m3, m4, hq, hl, true_and, and_true, e_messageAt, e_routerAt, up1_s, up1_n, mSend, gR, Nat.add_zero, Nat.reduceLeDiff]
