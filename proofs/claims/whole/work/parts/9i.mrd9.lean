theorem m_readPart_w1 (d q : Nat) {h : MH} {T : TP} {pl : PLt} {cf : CFt} {nc k op : Nat} (r : MR h T 1 q pl cf nc k op) (hk : k ≤ 50) (hn : nc + pl.length < 400) (c : bG T q 91 = false) (cn : bN T q 0 1000 = false) (cw : wAt T 1 q ≠ 99) (Q : RT) (K : StR h T 1 Q (sPart T 1 q pl cf nc k op)) : callD (d + 5) 182 [.ref 273] h Q := by
  have S := fun Q => m_isSign (d + 3) q 91 (by omega) r.1 Q
  rw [c, b2_f] at S
  unfold sPart at K
  rw [if_neg (by rw [c]; decide), if_neg (by rw [cn]; decide)] at K
  have k8 := r.1.1.1
  have P1 := fun Q => m_orderPartAt (d + 2) q r.2.1.1 r.2.2.1 r.1 Q
  have ep : pA T 1 q = nI (mW 1 (wAt T 1 q)) := if_neg cw
  obtain ⟨ty, w16⟩ := wAt_ty cw
  obtain ⟨m5, m6⟩ := mW_1 T q cw
  have h16 := r.1.2.2.2.2.2.2.1
  have h20 := r.2.2.2.2.1
  rw [ty] at h16
  simp only [ep] at P1
  have go : callD (d + 4) 181 [.ref 273, .int (nI 1), .int (nI (mW 1 (wAt T 1 q))), .int (nI 0)] h (kont (WP cd_Mo_readPart (callD (d + 4)) Q (hcc h, hcu h)) 102 [] [some (.ref 273), some (.int (nI (mW 1 (wAt T 1 q)))), some (.int (nI 0)), none]) := by
    refine m_leaf d q true (mW 1 (wAt T 1 q), 0) r hk hn _ (fun _ c5 h' f m => ?_) (fun c5 h' f m => ?_)
    · rw [if_neg (by omega)] at K
      have k8' := f.k8 k8
      have h20' : hfi h' 273 20 = nI 1 := f.o20.trans h20
      have b' := m.2.2.2.1
      by_cases c9 : 5 ≤ mW 1 (wAt T 1 q)
      · rw [if_pos (m5.mp c9)] at K
        obtain ⟨-, -, -, -, q4, q5, q6, -⟩ := m.2.1.1.rdr
        have q23 := m.2.1.2.1
        simp (disch := omega) only [U_Mo_readPart (cm _), SA, SB, SC1, SC2, SG, SV, k8', h20', b', q4, q23, ltI, show ¬ mW 1 (wAt T 1 q) < 5 by omega, pk_sub, Nat.add_sub_cancel, eqI, Nat.one_ne_zero, true_implies, not_true_eq_false, not_false_eq_true, false_implies, true_and, and_true]
        refine m_number d (tBe T q) 0 6 (by omega) (by omega) m.1 b' _ (fun hb => ?_) (fun hb v => ?_)
        · rw [if_pos hb] at K
          obtain ⟨N1, N2⟩ := MR_nx m
          obtain ⟨E1, E2⟩ := SR_arg N1.2.1 (nmV T (tBe T q))
          have N3 := MR_x N1 E2 E1
          rw [up1_s, up1_up1] at N3
          have Y := K _ ((f.trans N2).trans E2.1) N3
          obtain ⟨p1, -, -, -, p4, p5, p6, -⟩ := N1.2.1.1.rdr
          generalize hh1 : nxH h' T (tBe T q) = h1 at *
          simp (disch := omega) only [U_Mo_readPart (cm _), SA, SB, SC1, SC2, SG, SV, p5, p6, nI_clamp, in_eq, true_implies, not_true_eq_false, not_false_eq_true, false_implies, true_and, and_true]
          exact ⟨by omega, Y⟩
        · rw [if_neg (by rw [hb]; decide)] at K
          obtain ⟨B1, B2⟩ := MR_bd m
          have B3 := MR_bds m
          obtain ⟨v', rfl⟩ := nI_sur v
          obtain ⟨E1, E2⟩ := SR_arg B3 v'
          have Y := K _ (nI 3) ((f.trans B2).trans E2.1) ⟨B1.1, B1.2.1, _, _, _, E1⟩
          obtain ⟨p1, -, -, -, p4, p5, p6, -⟩ := B3.1.rdr
          generalize hh1 : bdH h' = h1 at *
          simp (disch := omega) only [U_Mo_readPart (cm _), SA, SB, SC1, SC2, SG, SV, p5, p6, nI_clamp, in_eq, true_implies, not_true_eq_false, not_false_eq_true, false_implies, true_and, and_true]
          exact ⟨by omega, Y⟩
      · rw [if_neg (fun z => c9 (m5.mpr z))] at K
        simp (disch := omega) only [U_Mo_readPart (cm _), SA, SB, SC1, SC2, SG, SV, k8', h20', ltI, show mW 1 (wAt T 1 q) < 5 by omega, eqI, Nat.one_ne_zero, true_implies, not_true_eq_false, not_false_eq_true, false_implies, true_and, and_true]
        exact K h' f m
    · rw [if_pos (by rcases c5 with z | z; cases z; exact Or.inr z)] at K
      have k8' := f.k8 k8
      have h20' : hfi h' 273 20 = nI 1 := f.o20.trans h20
      have b' := m.1
      by_cases c9 : mW 1 (wAt T 1 q) < 5
      · simp (disch := omega) only [U_Mo_readPart (cm _), SA, SB, SC1, SC2, SG, SV, k8', h20', b', ltI, c9, eqI, Nat.one_ne_zero, true_implies, not_true_eq_false, not_false_eq_true, false_implies, true_and, and_true]
        exact K h' _ f m
      · simp (disch := omega) only [U_Mo_readPart (cm _), SA, SB, SC1, SC2, SG, SV, k8', h20', b', ltI, c9, eqI, Nat.one_ne_zero, true_implies, not_true_eq_false, not_false_eq_true, false_implies, true_and, and_true]
        exact K h' _ f m
  rw [E_Mo_readPart]
  generalize hw : mW 1 (wAt T 1 q) = w at *
  have nm := nI_ne1 (n := w) (by omega)
  simp (disch := omega) only [↓SL, LC, U_Mo_readPart (cm _), SA, SB, SC1, SC2, SG, SV, k8, S, h20, P1, h16, nm, eqI, Nat.one_ne_zero, Nat.reduceEqDiff, true_implies, not_true_eq_false, not_false_eq_true, false_implies, true_and, and_true]
  exact go
theorem m_readPart (d q : Nat) {h : MH} {T : TP} {om : Nat} (hom : om = 0 ∨ om = 1) {pl : PLt} {cf : CFt} {nc k op : Nat} (r : MR h T om q pl cf nc k op) (hk : k ≤ 50) (ho : op ≤ 8) (hn : nc + pl.length ≤ q) (hn' : nc + pl.length < 400) (Q : RT) (K : StR h T om Q (sPart T om q pl cf nc k op)) : callD (d + 5) 182 [.ref 273] h Q := by
  cases c : bG T q 91 with
  | true => exact m_readPart_br d q r ho hn c Q K
  | false =>
    cases cn : bN T q 0 1000 with
    | true => exact m_readPart_n d q hom r hk hn c cn Q K
    | false =>
      by_cases cw : wAt T om q = 99
      · exact m_readPart_x d q hom r hk hn' c cn cw Q K
      · rcases hom with rfl | rfl
        · exact m_readPart_w0 d q r hk hn' c cn cw Q K
        · exact m_readPart_w1 d q r hk hn' c cn cw Q K
