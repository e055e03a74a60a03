theorem m_readPart_x (d q : Nat) {h : MH} {T : TP} {om : Nat} (hom : om = 0 ∨ om = 1) {pl : PLt} {cf : CFt} {nc k op : Nat} (r : MR h T om q pl cf nc k op) (hk : k ≤ 50) (hn : nc + pl.length < 400) (c : bG T q 91 = false) (cn : bN T q 0 1000 = false) (cw : wAt T om q = 99) (Q : RT) (K : StR h T om Q (sPart T om q pl cf nc k op)) : callD (d + 5) 182 [.ref 273] h Q := by
  have S := fun Q => m_isSign (d + 3) q 91 (by omega) r.1 Q
  rw [c, b2_f] at S
  unfold sPart at K
  rw [if_neg (by rw [c]; decide), if_neg (by rw [cn]; decide), if_pos (Or.inl cw)] at K
  have k8 := r.1.1.1
  have P0 := fun Q => m_partAt (d + 2) q r.2.1.1 r.2.2.1 r.1 Q
  have P1 := fun Q => m_orderPartAt (d + 2) q r.2.1.1 r.2.2.1 r.1 Q
  have ep : pA T om q = -1 := if_pos cw
  have h16 := r.1.2.2.2.2.2.2.1
  have h17 := r.1.2.2.2.2.2.2.2
  have t4 : tTy T q ≤ 3 := by unfold tTy; split; split; omega; split <;> omega; omega
  have z5 : (-1 : Int32) < nI 5 := by decide
  have h20 := r.2.2.2.2.1
  have fin : ∀ h', MRF h h' → Q (some (.int (nI 3))) h' → WP cd_Mo_readPart (callD (d + 4)) Q (hcc h, hcu h) 102 [] [some (.ref 273), some (.int (-1)), some (.int (nI 0)), none] h' := fun h' f y => by
    have k8' := f.k8 k8
    have h20' : hfi h' 273 20 = nI om := f.o20.trans h20
    rcases hom with rfl | rfl <;> simp (disch := omega) only [U_Mo_readPart (cm _), SA, SB, SC1, SC2, SG, SV, k8', h20', z5, eqI, Nat.one_ne_zero, true_implies, not_true_eq_false, not_false_eq_true, false_implies, true_and, and_true] <;> exact y
  have go : callD (d + 4) 181 [.ref 273, .int (nI 0), .int (nI 0), .int (nI 0)] h (kont (WP cd_Mo_readPart (callD (d + 4)) Q (hcc h, hcu h)) 102 [] [some (.ref 273), some (.int (-1)), some (.int (nI 0)), none]) := by
    refine m_leaf d q false (0, 0) r hk hn _ (fun z => by cases z) (fun c5 h' f m => ?_)
    simp only [SV]
    exact fin h' f (K h' _ f m)
  rw [E_Mo_readPart]
  by_cases ty : tTy T q = 2
  · obtain ⟨w1, w2, w3, w4⟩ := wth_num ty
    have w3' := w3 0 1000 (by omega)
    rw [w1] at h17
    rw [ty] at h16
    generalize hv : dmv T.1 (tAt T q) (tBe T q - tAt T q) = v at *
    have nv : ¬ v ≤ 1000 := fun z => by
      have := w3'.mp ⟨Nat.zero_le _, z⟩
      rw [cn] at this
      cases this
    have cm1 : (lN 1000 < lN v) = True := eq_true ((lN_lt (by omega) (by omega)).mpr (by omega))
    rcases hom with rfl | rfl
    · simp only [ep] at P0
      simp (disch := omega) only [↓SL, LC, U_Mo_readPart (cm _), SA, SB, SC1, SC2, SG, SV, k8, S, h20, P0, h16, h17, cm1, lN_t32, eqI, Nat.one_ne_zero, true_implies, not_true_eq_false, not_false_eq_true, false_implies, true_and, and_true]
      exact go
    · simp only [ep] at P1
      simp (disch := omega) only [↓SL, LC, U_Mo_readPart (cm _), SA, SB, SC1, SC2, SG, SV, k8, S, h20, P1, h16, h17, cm1, lN_t32, eqI, Nat.one_ne_zero, true_implies, not_true_eq_false, not_false_eq_true, false_implies, true_and, and_true]
      exact go
  · rcases hom with rfl | rfl
    · simp only [ep] at P0
      simp (disch := omega) only [↓SL, LC, U_Mo_readPart (cm _), SA, SB, SC1, SC2, SG, SV, k8, S, h20, P0, h16, ty, eqI, Nat.one_ne_zero, true_implies, not_true_eq_false, not_false_eq_true, false_implies, true_and, and_true]
      exact go
    · simp only [ep] at P1
      simp (disch := omega) only [↓SL, LC, U_Mo_readPart (cm _), SA, SB, SC1, SC2, SG, SV, k8, S, h20, P1, h16, ty, eqI, Nat.one_ne_zero, true_implies, not_true_eq_false, not_false_eq_true, false_implies, true_and, and_true]
      exact go
theorem mW_0 {T : TP} {q : Nat} (h : wAt T 0 q ≠ 99) : mW 0 (wAt T 0 q) = wAt T 0 q + 1 := rfl
theorem m_readPart_w0 (d q : Nat) {h : MH} {T : TP} {pl : PLt} {cf : CFt} {nc k op : Nat} (r : MR h T 0 q pl cf nc k op) (hk : k ≤ 50) (hn : nc + pl.length < 400) (c : bG T q 91 = false) (cn : bN T q 0 1000 = false) (cw : wAt T 0 q ≠ 99) (Q : RT) (K : StR h T 0 Q (sPart T 0 q pl cf nc k op)) : callD (d + 5) 182 [.ref 273] h Q := by
  have S := fun Q => m_isSign (d + 3) q 91 (by omega) r.1 Q
  rw [c, b2_f] at S
  unfold sPart at K
  rw [if_neg (by rw [c]; decide), if_neg (by rw [cn]; decide)] at K
  have k8 := r.1.1.1
  have P0 := fun Q => m_partAt (d + 2) q r.2.1.1 r.2.2.1 r.1 Q
  have ep : pA T 0 q = nI (mW 0 (wAt T 0 q)) := if_neg cw
  obtain ⟨ty, w16⟩ := wAt_ty cw
  have h16 := r.1.2.2.2.2.2.2.1
  have h20 := r.2.2.2.2.1
  rw [ty] at h16
  have mb : mW 0 (wAt T 0 q) ≤ 20 := by rw [mW_0 cw]; omega
  simp only [ep] at P0
  have k9 : ¬ (wAt T 0 q = 9 ∨ wAt T 0 q = 16) := fun z => by have := wAt_0 T q; omega
  have go : callD (d + 4) 181 [.ref 273, .int (nI 1), .int (nI (mW 0 (wAt T 0 q))), .int (nI 0)] h (kont (WP cd_Mo_readPart (callD (d + 4)) Q (hcc h, hcu h)) 102 [] [some (.ref 273), some (.int (nI (mW 0 (wAt T 0 q)))), some (.int (nI 0)), none]) := by
    refine m_leaf d q true (mW 0 (wAt T 0 q), 0) r hk hn _ (fun _ c5 h' f m => ?_) (fun c5 h' f m => ?_)
    · rw [if_neg (by omega), if_neg k9] at K
      have k8' := f.k8 k8
      have h20' : hfi h' 273 20 = nI 0 := f.o20.trans h20
      simp (disch := omega) only [U_Mo_readPart (cm _), SA, SB, SC1, SC2, SG, SV, k8', h20', eqI, true_implies, not_true_eq_false, not_false_eq_true, false_implies, true_and, and_true]
      exact K h' f m
    · rw [if_pos (by rcases c5 with z | z; cases z; exact Or.inr z)] at K
      have k8' := f.k8 k8
      have h20' : hfi h' 273 20 = nI 0 := f.o20.trans h20
      simp (disch := omega) only [U_Mo_readPart (cm _), SA, SB, SC1, SC2, SG, SV, k8', h20', eqI, true_implies, not_true_eq_false, not_false_eq_true, false_implies, true_and, and_true]
      exact K h' _ f m
  rw [E_Mo_readPart]
  generalize hw : mW 0 (wAt T 0 q) = w at *
  have nm := nI_ne1 (n := w) (by omega)
  simp (disch := omega) only [↓SL, LC, U_Mo_readPart (cm _), SA, SB, SC1, SC2, SG, SV, k8, S, h20, P0, h16, nm, eqI, Nat.one_ne_zero, Nat.reduceEqDiff, true_implies, not_true_eq_false, not_false_eq_true, false_implies, true_and, and_true]
  exact go
