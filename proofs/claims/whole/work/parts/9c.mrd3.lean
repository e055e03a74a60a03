/-! ===== the words of a part ===== -/
theorem wds_inj : ∀ a, a < 22 → ∀ b, b < 22 → (wds a).reverse = (wds b).reverse → a = b := by decide +kernel
theorem bW_inj {T : TP} {q a b : Nat} (ha : a < 22) (hb : b < 22) (h1 : bW T q a = true) (h2 : bW T q b = true) : a = b :=
  wds_inj a ha b hb ((bW_t.mp h1).2.symm.trans (bW_t.mp h2).2)
theorem bW_no {T : TP} {q a b : Nat} (ha : a < 22) (hb : b < 22) (hn : b ≠ a) (h1 : bW T q a = true) : ¬ bW T q b = true := fun h2 => hn (bW_inj hb ha h2 h1)
def wkL (k : Nat) : Nat := [14, 15, 5, 16, 9, 8, 17].getD k 0
def wkO (k : Nat) : Nat := [8, 10, 11, 9, 12, 13].getD k 0
theorem wkL_lt : ∀ k, k < 7 → wkL k < 22 := by decide
theorem wkO_lt : ∀ k, k < 6 → wkO k < 22 := by decide
/-- the reference's words stand in its cells -/
def WDM (h : MH) : Prop := (∀ k, k < 7 → hja h 288 k = lN (ev (wds (wkL k)).reverse)) ∧ (∀ k, k < 6 → hja h 289 k = lN (ev (wds (wkO k)).reverse))
def pA (T : TP) (om q : Nat) : Int32 := if wAt T om q = 99 then -1 else nI (mW om (wAt T om q))
def wF (T : TP) (q : Nat) (w : Nat → Nat) (x : Int32) (k : Nat) : Int32 := if bW T q (w k) = true then nI (k + 1) else x
theorem MoS.wd {h : MH} (hM : MoS h) : hkd h 273 = 8 ∧ hfr h 273 31 = some 288 ∧ hkd h 288 = 21 ∧ hln h 288 = 7 ∧ hfr h 273 32 = some 289 ∧ hkd h 289 = 21 ∧ hln h 289 = 6 := by
  obtain ⟨a, -, -, -, -, -, -, -, -, -, -, -, -, -, -, ⟨c1, c2, c3⟩, ⟨d1, d2, d3⟩, -⟩ := hM
  exact ⟨a, c1, c2, c3, d1, d2, d3⟩
theorem m_l_part (d q : Nat) {h : MH} {T : TP} (hM : MoS h) (w : WDM h) (t : MTk h T q) (Q : RT) (lm : Nat × Nat) : ∀ (m k : Nat) (x : Int32), k + m = 7 → WP cd_Mo_partAt (callD (d + 1)) Q lm 4 [] [some (.ref 273), some (.int x), some (.int (nI k))] h = Q (some (.int (itr (wF T q wkL) k m x))) h
  | 0, k, x, e => by
    rw [U_Mo_partAt_4 (cm _)]
    simp (disch := omega) only [U_Mo_partAt (cm _), SA, SB, SG, SV, leI, show 7 ≤ k by omega, itr_0, true_implies, not_true_eq_false, not_false_eq_true, false_implies, true_and, and_true]
  | m + 1, k, x, e => by
    obtain ⟨m1, m2, m3, m4, -⟩ := hM.wd
    have ih := m_l_part d q hM w t Q lm m (k + 1) (wF T q wkL x k) (by omega)
    have ew := w.1 k (by omega)
    have W := fun Q => m_isWord d q (wkL k) (wkL_lt k (by omega)) t Q
    rw [U_Mo_partAt_4 (cm _), itr_s, ← ih]
    unfold wF
    cases hb : bW T q (wkL k) with
    | true =>
      rw [hb, b2_t] at W
      simp (disch := omega) only [U_Mo_partAt (cm _), SA, SB, SC1, SC2, SG, SV, m1, m2, m3, m4, ew, W, leI, show ¬ 7 ≤ k by omega, eqI, Nat.one_ne_zero, nI_add, nI_clamp, in_eq, if_true, true_implies, not_true_eq_false, not_false_eq_true, false_implies, true_and, and_true]
    | false =>
      rw [hb, b2_f] at W
      simp (disch := omega) only [U_Mo_partAt (cm _), SA, SB, SC1, SC2, SG, SV, m1, m2, m3, m4, ew, W, leI, show ¬ 7 ≤ k by omega, eqI, Nat.one_ne_zero, nI_add, nI_clamp, in_eq, Bool.false_eq_true, if_false, true_implies, not_true_eq_false, not_false_eq_true, false_implies, true_and, and_true]
theorem m_l_opart (d q : Nat) {h : MH} {T : TP} (hM : MoS h) (w : WDM h) (t : MTk h T q) (Q : RT) (lm : Nat × Nat) : ∀ (m k : Nat) (x : Int32), k + m = 6 → WP cd_Mo_orderPartAt (callD (d + 1)) Q lm 4 [] [some (.ref 273), some (.int x), some (.int (nI k))] h = Q (some (.int (itr (wF T q wkO) k m x))) h
  | 0, k, x, e => by
    rw [U_Mo_orderPartAt_4 (cm _)]
    simp (disch := omega) only [U_Mo_orderPartAt (cm _), SA, SB, SG, SV, leI, show 6 ≤ k by omega, itr_0, true_implies, not_true_eq_false, not_false_eq_true, false_implies, true_and, and_true]
  | m + 1, k, x, e => by
    obtain ⟨m1, -, -, -, m2, m3, m4⟩ := hM.wd
    have ih := m_l_opart d q hM w t Q lm m (k + 1) (wF T q wkO x k) (by omega)
    have ew := w.2 k (by omega)
    have W := fun Q => m_isWord d q (wkO k) (wkO_lt k (by omega)) t Q
    rw [U_Mo_orderPartAt_4 (cm _), itr_s, ← ih]
    unfold wF
    cases hb : bW T q (wkO k) with
    | true =>
      rw [hb, b2_t] at W
      simp (disch := omega) only [U_Mo_orderPartAt (cm _), SA, SB, SC1, SC2, SG, SV, m1, m2, m3, m4, ew, W, leI, show ¬ 6 ≤ k by omega, eqI, Nat.one_ne_zero, nI_add, nI_clamp, in_eq, if_true, true_implies, not_true_eq_false, not_false_eq_true, false_implies, true_and, and_true]
    | false =>
      rw [hb, b2_f] at W
      simp (disch := omega) only [U_Mo_orderPartAt (cm _), SA, SB, SC1, SC2, SG, SV, m1, m2, m3, m4, ew, W, leI, show ¬ 6 ≤ k by omega, eqI, Nat.one_ne_zero, nI_add, nI_clamp, in_eq, Bool.false_eq_true, if_false, true_implies, not_true_eq_false, not_false_eq_true, false_implies, true_and, and_true]
theorem pA_L (T : TP) (q : Nat) : itr (wF T q wkL) 0 7 (-1) = pA T 0 q := by
  show (if bW T q 17 = true then nI 7 else if bW T q 8 = true then nI 6 else if bW T q 9 = true then nI 5 else if bW T q 16 = true then nI 4 else if bW T q 5 = true then nI 3 else if bW T q 15 = true then nI 2 else if bW T q 14 = true then nI 1 else -1) = _
  unfold pA wAt mW
  by_cases c1 : bW T q 17 = true
  · simp [c1, bW_no (a := 17) (b := 8) (by omega) (by omega) (by omega) c1, bW_no (a := 17) (b := 9) (by omega) (by omega) (by omega) c1, bW_no (a := 17) (b := 16) (by omega) (by omega) (by omega) c1, bW_no (a := 17) (b := 5) (by omega) (by omega) (by omega) c1, bW_no (a := 17) (b := 15) (by omega) (by omega) (by omega) c1, bW_no (a := 17) (b := 14) (by omega) (by omega) (by omega) c1]
  by_cases c2 : bW T q 8 = true
  · simp [c1, c2]
  by_cases c3 : bW T q 9 = true
  · simp [c1, c2, c3]
  by_cases c4 : bW T q 16 = true
  · simp [c1, c2, c3, c4, bW_no (a := 16) (b := 5) (by omega) (by omega) (by omega) c4, bW_no (a := 16) (b := 15) (by omega) (by omega) (by omega) c4, bW_no (a := 16) (b := 14) (by omega) (by omega) (by omega) c4]
  by_cases c5 : bW T q 5 = true
  · simp [c1, c2, c3, c4, c5, bW_no (a := 5) (b := 15) (by omega) (by omega) (by omega) c5, bW_no (a := 5) (b := 14) (by omega) (by omega) (by omega) c5]
  by_cases c6 : bW T q 15 = true
  · simp [c1, c2, c3, c4, c5, c6, bW_no (a := 15) (b := 14) (by omega) (by omega) (by omega) c6]
  by_cases c7 : bW T q 14 = true <;> simp [c1, c2, c3, c4, c5, c6, c7]
theorem pA_O (T : TP) (q : Nat) : itr (wF T q wkO) 0 6 (-1) = pA T 1 q := by
  show (if bW T q 13 = true then nI 6 else if bW T q 12 = true then nI 5 else if bW T q 9 = true then nI 4 else if bW T q 11 = true then nI 3 else if bW T q 10 = true then nI 2 else if bW T q 8 = true then nI 1 else -1) = _
  unfold pA wAt mW
  by_cases c1 : bW T q 13 = true
  · simp [c1, bW_no (a := 13) (b := 8) (by omega) (by omega) (by omega) c1, bW_no (a := 13) (b := 9) (by omega) (by omega) (by omega) c1, bW_no (a := 13) (b := 10) (by omega) (by omega) (by omega) c1, bW_no (a := 13) (b := 11) (by omega) (by omega) (by omega) c1, bW_no (a := 13) (b := 12) (by omega) (by omega) (by omega) c1]
  by_cases c2 : bW T q 12 = true
  · simp [c1, c2, bW_no (a := 12) (b := 8) (by omega) (by omega) (by omega) c2, bW_no (a := 12) (b := 9) (by omega) (by omega) (by omega) c2, bW_no (a := 12) (b := 10) (by omega) (by omega) (by omega) c2, bW_no (a := 12) (b := 11) (by omega) (by omega) (by omega) c2]
  by_cases c3 : bW T q 9 = true
  · simp [c1, c2, c3, bW_no (a := 9) (b := 8) (by omega) (by omega) (by omega) c3]
  by_cases c4 : bW T q 11 = true
  · simp [c1, c2, c3, c4, bW_no (a := 11) (b := 8) (by omega) (by omega) (by omega) c4, bW_no (a := 11) (b := 10) (by omega) (by omega) (by omega) c4]
  by_cases c5 : bW T q 10 = true
  · simp [c1, c2, c3, c4, c5, bW_no (a := 10) (b := 8) (by omega) (by omega) (by omega) c5]
  by_cases c6 : bW T q 8 = true <;> simp [c1, c2, c3, c4, c5, c6]
theorem m_partAt (d q : Nat) {h : MH} {T : TP} (hM : MoS h) (w : WDM h) (t : MTk h T q) (Q : RT) : callD (d + 2) 178 [.ref 273] h Q = Q (some (.int (pA T 0 q))) h := by
  have L := m_l_part d q hM w t Q (hcc h, hcu h) 7 0 (-1) rfl
  rw [pA_L] at L
  rw [E_Mo_partAt]
  simp (disch := omega) only [U_Mo_partAt (cm _), SA, SB, SG, SV]
  exact L
theorem m_orderPartAt (d q : Nat) {h : MH} {T : TP} (hM : MoS h) (w : WDM h) (t : MTk h T q) (Q : RT) : callD (d + 2) 179 [.ref 273] h Q = Q (some (.int (pA T 1 q))) h := by
  have L := m_l_opart d q hM w t Q (hcc h, hcu h) 6 0 (-1) rfl
  rw [pA_O] at L
  rw [E_Mo_orderPartAt]
  simp (disch := omega) only [U_Mo_orderPartAt (cm _), SA, SB, SG, SV]
  exact L
