theorem isL_iff {p : RW} {i k f t d one other : Nat} (hm : MV p i k f t d) (h1 : one < 7) (h2 : other < 7) : isL p (nI one) (nI other) i ↔ ((f = one ∧ t = other) ∨ (f = other ∧ t = one)) := by
  obtain ⟨k1, k2, k3, k4, e1, e2, e3, e4⟩ := hm
  unfold isL
  rw [e2, e3, eqI (by omega) (by omega), eqI (by omega) (by omega), eqI (by omega) (by omega), eqI (by omega) (by omega)]
theorem y_l_loses (d n one other N : Nat) (h1 : one < 7) (h2 : other < 7) (hN : N ≤ 420) {h0 : MH} (Q : RT) (lm : Nat × Nat) : ∀ (m i a : Nat) (w1 w2 w3 : Option Value) (h : MH) (p : RW), XN h0 n h p → p 6 = nI N → MVs p → i + m = N → a ≤ i → (∀ h', XN h0 n h' (up1 (itr (losG (nI one) (nI other)) i m (p, a)).1 6 (nI (itr (losG (nI one) (nI other)) i m (p, a)).2)) → Q none h') → WP cd_Ne_losesMessages (callD (d + 1)) Q lm 5 [] [some (.ref n), some (.int (nI one)), some (.int (nI other)), some (.int (nI a)), some (.int (nI i)), w1, w2, w3] h
  | 0, i, a, w1, w2, w3, h, p, X, h6, hv, hi, ha, kk => by
    obtain ⟨sh, h24⟩ := X.2.1.all
    obtain rfl : i = N := by omega
    have hl := ql_of h6 (by omega)
    have e9 : hfi h n 9 = nI i := X.2.2.2.2.2.2.2.2.2.2.2.1.trans h6
    have X1 := X.cut (a := a) (by omega) (by omega)
    rw [itr_0] at kk
    rw [U_Ne_losesMessages_5 (cm _)]
    simp (disch := omega) only [U_Ne_losesMessages (cm _), SA, SB, SG, SV, leI, sh, e9, Nat.le_refl, true_implies, not_true_eq_false, false_implies, true_and, and_true]
    exact kk _ X1
  | m + 1, i, a, w1, w2, w3, h, p, X, h6, hv, hi, ha, kk => by
    obtain ⟨sh, h24⟩ := X.2.1.all
    have n9 : 24 ≤ n + 9 := by omega
    have hl := ql_of h6 (by omega)
    have hk7 : ¬ N ≤ i := by omega
    have e9 : hfi h n 9 = nI N := X.2.2.2.2.2.2.2.2.2.2.2.1.trans h6
    obtain ⟨k, f, t, dd, hm⟩ := hv i (by omega)
    have eq : hia h (n + 9) i = nI (k + 4 * f + 32 * t + 256 * dd) := (X.2.2.2.2.2.2.2.2.2.2.1 i (by omega)).trans hm.pk
    have hL := isL_iff hm h1 h2
    obtain ⟨k1, k2, k3, k4, -⟩ := hm
    rw [itr_s] at kk
    rw [U_Ne_losesMessages_5 (cm _)]
    by_cases c : isL p (nI one) (nI other) i
    · rw [show losG (nI one) (nI other) (p, a) i = (p, a) from if_pos c] at kk
      have ih := fun w1 w2 w3 => y_l_loses d n one other N h1 h2 hN Q lm m (i + 1) a w1 w2 w3 h p X h6 hv (by omega) (by omega) kk
      have c' := hL.mp c
      by_cases c1 : f = one ∧ t = other
      · obtain ⟨rfl, rfl⟩ := c1
        simp (disch := omega) only [U_Ne_losesMessages (cm _), SA, SB, SC1, SC2, SG, SV, leI, sh, e9, eq, hk7, e_fromOf d k _ _ dd k1 k2 k3 k4, e_toOf d k _ _ dd k1 k2 k3 k4, eqI, nI_clamp, in_eq, nI_add, Nat.one_ne_zero, true_implies, not_true_eq_false, not_false_eq_true, false_implies, true_and, and_true, or_true, true_or]
        exact ih _ _ _
      · have c2 := c'.resolve_left c1
        obtain ⟨rfl, rfl⟩ := c2
        have c3 : ¬ (f = t) := fun e => c1 ⟨e, e.symm⟩
        have c3' : ¬ (t = f) := fun e => c3 e.symm
        simp (disch := omega) only [U_Ne_losesMessages (cm _), SA, SB, SC1, SC2, SG, SV, leI, sh, e9, eq, hk7, e_fromOf d k _ _ dd k1 k2 k3 k4, e_toOf d k _ _ dd k1 k2 k3 k4, eqI, c3, c3', nI_clamp, in_eq, nI_add, Nat.one_ne_zero, true_implies, not_true_eq_false, not_false_eq_true, false_implies, true_and, and_true, or_true, true_or]
        exact ih _ _ _
    · rw [show losG (nI one) (nI other) (p, a) i = (mv4 p a i, a + 1) from if_neg c] at kk
      have X1 := X.mov (a := a) (i := i) (by omega)
      rw [eq] at X1
      have ih := fun w1 w2 w3 => y_l_loses d n one other N h1 h2 hN Q lm m (i + 1) (a + 1) w1 w2 w3 _ _ X1 (by rw [mv4_lo (by omega)]; exact h6) (hv.mv4 (by omega)) (by omega) (by omega) kk
      have c' : ¬ ((f = one ∧ t = other) ∨ (f = other ∧ t = one)) := fun q => c (hL.mpr q)
      have d1 : f = one → ¬ t = other := fun e q => c' (Or.inl ⟨e, q⟩)
      have d2 : f = other → ¬ t = one := fun e q => c' (Or.inr ⟨e, q⟩)
      by_cases g1 : f = one <;> by_cases g2 : f = other
      · have g3 := d1 g1
        have g4 := d2 g2
        simp (disch := omega) only [U_Ne_losesMessages (cm _), SA, SB, SC1, SC2, SG, SV, leI, sh, e9, eq, hk7, n9, e_fromOf d k f t dd k1 k2 k3 k4, e_toOf d k f t dd k1 k2 k3 k4, eqI, eq_true g1, eq_true g2, eq_false g3, eq_false g4, nI_clamp, in_eq, nI_add, true_implies, not_true_eq_false, not_false_eq_true, false_implies, true_and, and_true, or_true, true_or]
        exact ih _ _ _
      · have g3 := d1 g1
        simp (disch := omega) only [U_Ne_losesMessages (cm _), SA, SB, SC1, SC2, SG, SV, leI, sh, e9, eq, hk7, n9, e_fromOf d k f t dd k1 k2 k3 k4, e_toOf d k f t dd k1 k2 k3 k4, eqI, eq_true g1, eq_false g2, eq_false g3, nI_clamp, in_eq, nI_add, true_implies, not_true_eq_false, not_false_eq_true, false_implies, true_and, and_true, or_true, true_or]
        exact ih _ _ _
      · have g4 := d2 g2
        simp (disch := omega) only [U_Ne_losesMessages (cm _), SA, SB, SC1, SC2, SG, SV, leI, sh, e9, eq, hk7, n9, e_fromOf d k f t dd k1 k2 k3 k4, e_toOf d k f t dd k1 k2 k3 k4, eqI, eq_false g1, eq_true g2, eq_false g4, nI_clamp, in_eq, nI_add, true_implies, not_true_eq_false, not_false_eq_true, false_implies, true_and, and_true, or_true, true_or]
        exact ih _ _ _
      · simp (disch := omega) only [U_Ne_losesMessages (cm _), SA, SB, SC1, SC2, SG, SV, leI, sh, e9, eq, hk7, n9, e_fromOf d k f t dd k1 k2 k3 k4, e_toOf d k f t dd k1 k2 k3 k4, eqI, eq_false g1, eq_false g2, nI_clamp, in_eq, nI_add, true_implies, not_true_eq_false, not_false_eq_true, false_implies, true_and, and_true, or_true, true_or]
        exact ih _ _ _
theorem y_loses (d n one other : Nat) (h1 : one < 7) (h2 : other < 7) {h0 h : MH} {p : RW} (X : XN h0 n h p) (hQ : QL p 420) (hv : MVs p) (Q : RT) (kk : ∀ h', XN h0 n h' (mLose p (nI one) (nI other)) → Q none h') : callD (d + 2) 30 [.ref n, .int (nI one), .int (nI other)] h Q := by
  rw [E_Ne_losesMessages]
  simp only [U_Ne_losesMessages (cm _), SA, SB, SG, SV]
  exact y_l_loses d n one other (ql p) h1 h2 hQ.2 Q _ (ql p) 0 0 _ _ _ h p X hQ.1 hv (by omega) (by omega) kk
