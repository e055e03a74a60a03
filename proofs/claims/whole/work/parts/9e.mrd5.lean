/-! ===== number, leaf, bracket ===== -/
theorem lN_t32 (n : Nat) : (lN n).toInt32 = nI n := by rw [← jI_n, jI_i, iI_n]
theorem m_number (d q lo hi : Nat) (hl : lo ≤ 1000) (hh : hi ≤ 1000) {h : MH} {T : TP} (t : MTk h T q) (hbad : hfi h 273 19 = nI 0) (Q : RT) (k1 : bN T q lo hi = true → Q (some (.int (nI (nmV T q)))) (nxH h T q)) (k2 : bN T q lo hi = false → ∀ v, Q (some (.int v)) (bdH h)) : callD (d + 4) 170 [.ref 273, .long (lN lo), .long (lN hi)] h Q := by
  have M1 := fun Q => m_must d q true t hbad Q
  have M0 := fun Q => m_must d q false t hbad Q
  simp only [b2_t, if_true] at M1
  simp only [b2_f, Bool.false_eq_true, if_false] at M0
  have k8 := t.1.1
  obtain ⟨-, -, -, -, -, -, h16, h17⟩ := t
  rw [E_Mo_number]
  by_cases c : tTy T q = 2
  · obtain ⟨w1, w2, w3, w4⟩ := wth_num c
    have w3' := w3 lo hi hh
    rw [w1] at h17
    generalize hv : dmv T.1 (tAt T q) (tBe T q - tAt T q) = v at *
    cases hb : bN T q lo hi with
    | true =>
      have w5 := w3'.mpr hb
      have i1 : b01 (lN lo ≤ lN v ∧ lN v ≤ lN hi) = nI 1 := b01_t ⟨(lN_le (by omega) (by omega)).mpr w5.1, (lN_le (by omega) (by omega)).mpr w5.2⟩
      have nn := bN_t.mp hb
      have ev' : v = nmV T q := w4 (by have := nn.2.2; omega)
      have K := k1 hb
      rw [← ev'] at K
      simp (disch := omega) only [U_Mo_number (cm _), SA, SB, SC1, SC2, SG, SV, k8, h16, h17, c, e_in, i1, M1, lN_t32, eqI, Nat.one_ne_zero, true_implies, not_true_eq_false, not_false_eq_true, false_implies, true_and, and_true]
      exact K
    | false =>
      have i1 : b01 (lN lo ≤ lN v ∧ lN v ≤ lN hi) = nI 0 := b01_f (fun z => by
        have := w3'.mp ⟨(lN_le (by omega) (by omega)).mp z.1, (lN_le (by omega) (by omega)).mp z.2⟩
        rw [hb] at this
        cases this)
      have K := k2 hb
      simp (disch := omega) only [U_Mo_number (cm _), SA, SB, SC1, SC2, SG, SV, k8, h16, h17, c, e_in, i1, M0, eqI, Nat.one_ne_zero, true_implies, not_true_eq_false, not_false_eq_true, false_implies, true_and, and_true]
      exact K _
  · have hb : bN T q lo hi = false := Bool.eq_false_iff.mpr (fun z => c (bN_t.mp z).1)
    have t4 : tTy T q ≤ 3 := by unfold tTy; split; split; omega; split <;> omega; omega
    have K := k2 hb
    simp (disch := omega) only [U_Mo_number (cm _), SA, SB, SC1, SC2, SG, SV, k8, h16, c, M0, eqI, Nat.one_ne_zero, true_implies, not_true_eq_false, not_false_eq_true, false_implies, true_and, and_true]
    exact K _
theorem m_leaf (d q : Nat) (b : Bool) (x : Nat × Nat) {h : MH} {T : TP} {om : Nat} {pl : PLt} {cf : CFt} {nc k op : Nat} (r : MR h T om q pl cf nc k op) (hk : k ≤ 50) (hn : nc + pl.length < 400) (Q : RT) (k1 : b = true → k < 50 → ∀ h', MRF h h' → MR h' T om (tBe T q) pl (up1 cf nc x) (nc + 1) (k + 1) op → Q none h') (k2 : (b = false ∨ 50 ≤ k) → ∀ h', MRF h h' → MEr h' (tAt T q) → Q none h') : callD (d + 4) 181 [.ref 273, .int (b2 b), .int (nI x.1), .int (nI x.2)] h Q := by
  have M1 := fun Q => m_must d q true r.1 r.2.2.2.1 Q
  have M0 := fun Q => m_must d q false r.1 r.2.2.2.1 Q
  simp only [b2_t, if_true] at M1
  simp only [b2_f, Bool.false_eq_true, if_false] at M0
  have k8 := r.1.1.1
  have h26 := r.2.2.2.2.2.1
  obtain ⟨B1, B2⟩ := MR_bd r
  have bk : hkd (bdH h) 273 = 8 := k8
  have bb : hfi (bdH h) 273 19 = nI 1 := B1.1
  rw [E_Mo_leaf]
  by_cases c : b = true ∧ k < 50
  · obtain ⟨c1, c2⟩ := c
    subst c1
    obtain ⟨N1, N2⟩ := MR_nx r
    have nk := N1.1.1.1
    have nb := N1.2.2.2.1
    obtain ⟨E1, E2⟩ := SR_emit N1.2.1 x hn
    have N3 := MR_x N1 E2.X E1
    have EM := fun Q => m_emit (d + 2) nc (nI x.1) (nI x.2) (by omega) N1.2.1.1 N1.2.1.2.1 Q
    have ek := N3.1.1.1
    have e26 := N3.2.2.2.2.2.1
    obtain ⟨L1, L2⟩ := MR_26 N3 (k + 1)
    have K := k1 rfl c2 _ ((N2.trans E2.F).trans L2) L1
    generalize hh1 : nxH h T q = h1 at *
    generalize hh2 : meH h1 nc (nI x.1) (nI x.2) = h2 at *
    simp (disch := omega) only [b2_t, U_Mo_leaf (cm _), SA, SB, SC1, SC2, SG, SV, k8, h26, M1, nk, nb, EM, ek, e26, leI, show ¬ 50 ≤ k by omega, nI_add, eqI, Nat.one_ne_zero, true_implies, not_true_eq_false, not_false_eq_true, false_implies, true_and, and_true]
    exact K
  · have K := k2 (by cases b <;> simp at c ⊢; omega) _ B2 B1
    generalize hh1 : bdH h = h1 at *
    cases b with
    | false => simp (disch := omega) only [b2_f, U_Mo_leaf (cm _), SA, SB, SC1, SC2, SG, SV, k8, M0, bk, bb, eqI, Nat.one_ne_zero, true_implies, not_true_eq_false, not_false_eq_true, false_implies, true_and, and_true]; exact K
    | true =>
      have c2 : 50 ≤ k := by simp at c; omega
      simp (disch := omega) only [b2_t, U_Mo_leaf (cm _), SA, SB, SC1, SC2, SG, SV, k8, h26, M0, bk, bb, leI, c2, eqI, Nat.one_ne_zero, true_implies, not_true_eq_false, not_false_eq_true, false_implies, true_and, and_true]
      exact K
theorem m_openBracket (d q o : Nat) (h1 : 31 ≤ o) (h2 : o ≤ 32) {h : MH} {T : TP} {om : Nat} {pl : PLt} {cf : CFt} {nc k op : Nat} (r : MR h T om q pl cf nc k op) (ho : op ≤ 8) (hn : nc + pl.length < 400) (Q : RT) (k1 : op < 8 → ∀ h', MRF h h' → MR h' T om (tBe T q) ((o, 0) :: pl) cf nc k (op + 1) → Q none h') (k2 : 8 ≤ op → ∀ h', MRF h h' → MEr h' (tAt T q) → Q none h') : callD (d + 4) 180 [.ref 273, .int (nI o)] h Q := by
  have M1 := fun Q => m_must d q true r.1 r.2.2.2.1 Q
  have M0 := fun Q => m_must d q false r.1 r.2.2.2.1 Q
  simp only [b2_t, if_true] at M1
  simp only [b2_f, Bool.false_eq_true, if_false] at M0
  have k8 := r.1.1.1
  have h30 := r.2.2.2.2.2.2.1
  obtain ⟨B1, B2⟩ := MR_bd r
  have bk : hkd (bdH h) 273 = 8 := k8
  have bb : hfi (bdH h) 273 19 = nI 1 := B1.1
  rw [E_Mo_openBracket]
  by_cases c : op < 8
  · obtain ⟨N1, N2⟩ := MR_nx r
    have nk := N1.1.1.1
    have nb := N1.2.2.2.1
    have n30 := N1.2.2.2.2.2.2.1
    obtain ⟨L1, L2⟩ := MR_30 N1 (op + 1)
    obtain ⟨E1, E2⟩ := SR_push L1.2.1 o 0 (by omega) h2 (by omega) (fun z => by omega) hn
    have N3 := MR_x L1 E2 E1
    have EM := fun Q => m_push (d + 2) pl.length (nI o) (nI 0) (by omega) L1.2.1.1 L1.2.1.2.2.1 Q
    have K := k1 c _ ((N2.trans L2).trans E2.1) N3
    generalize hh1 : nxH h T q = h1 at *
    simp (disch := omega) only [U_Mo_openBracket (cm _), SA, SB, SC1, SC2, SG, SV, k8, h30, M1, nk, nb, n30, EM, leI, show ¬ 8 ≤ op by omega, nI_add, eqI, Nat.one_ne_zero, true_implies, not_true_eq_false, not_false_eq_true, false_implies, true_and, and_true]
    exact K
  · have K := k2 (by omega) _ B2 B1
    generalize hh1 : bdH h = h1 at *
    simp (disch := omega) only [U_Mo_openBracket (cm _), SA, SB, SC1, SC2, SG, SV, k8, h30, M0, bk, bb, leI, show 8 ≤ op by omega, eqI, Nat.one_ne_zero, true_implies, not_true_eq_false, not_false_eq_true, false_implies, true_and, and_true]
    exact K
