set_option maxHeartbeats 2000000 in
theorem y_decides (d n r : Nat) (hr : r < 7) (ask : Int32) {h0 h : MH} {p : RW} (X : XN h0 n h p) (hQ : QL p 413) (hC : CN p) (hs : SU (gR p r 2)) (hw : M7 ask) (h0w : mNb p r = nI 0 → ask = nI 0) (Q : RT) (kk : ∀ h', XN h0 n h' (mDecide p r ask) → Q none h') : callD (d + 4) 36 [.ref n, .int (nI r), .int ask] h Q := by
  obtain ⟨sh, h24⟩ := X.2.1.all
  have n4 : 24 ≤ n + 4 := by omega
  have n5 : 24 ≤ n + 5 := by omega
  have n6 : 24 ≤ n + 6 := by omega
  have e4 := X.2.2.2.2.2.1 r hr
  have e5 := X.2.2.2.2.2.2.1 r hr
  have hq2 := hQ.2
  rw [E_Ne_decides]
  unfold mDecide at kk
  dsimp only at kk
  obtain ⟨t1, t2⟩ := tl_fs p r
  by_cases g : mBest p r = -1
  · rw [if_pos g] at kk
    have T := t1.mpr g
    have tk : ∀ Q', callD (d + 3) 37 [.ref n, .int (nI r), .int (mFs p r)] h Q' = Q' (some (.int (nI 0))) h := fun Q' => by rw [x_takesLeast d n r hr (mFs p r) X.2.1 X.2.2, if_pos T]
    by_cases c1 : gR p r 0 = nI 9999
    · by_cases c2 : mLeast p r = nI 9999
      · rw [if_pos ⟨c1, c2⟩] at kk
        have X1 := X.suc hr (-1)
        simp (disch := omega) only [U_Ne_decides (cm _), SA, SB, SC1, SC2, SG, SV, sh, e4, c1, c2, tk, x_feasible (d + 2) n r hr X.2.1 X.2.2, x_leastBy d n r hr X.2.1 X.2.2, n6, nI_clamp, in_eq, true_implies, not_true_eq_false, not_false_eq_true, false_implies, and_true, true_and]
        refine y_sends (d + 2) n r hr _ _ X1 (by rw [ql_up (by omega), up1_n _ _ (by omega)]; exact hQ.1) (by rw [ql_up (by omega)]; have := cnt_le ask; omega) _ (fun h' X2 => ?_)
        simp only [SV, U_Ne_decides (cm _), SA, SB]
        exact kk h' X2
      · rw [if_neg (fun q => c2 q.2)] at kk
        simp (disch := omega) only [U_Ne_decides (cm _), SA, SB, SC1, SC2, SG, SV, sh, e4, c1, c2, tk, x_feasible (d + 2) n r hr X.2.1 X.2.2, x_leastBy d n r hr X.2.1 X.2.2, nI_clamp, in_eq, true_implies, not_true_eq_false, not_false_eq_true, false_implies, and_true, true_and]
        refine y_goesActive d n r hr _ X hQ hC hs h0w _ (fun h' X' => ?_)
        simp only [SV, U_Ne_decides (cm _), SA, SB]
        exact kk h' X'
    · rw [if_neg (fun q => c1 q.1)] at kk
      simp (disch := omega) only [U_Ne_decides (cm _), SA, SB, SC1, SC2, SG, SV, sh, e4, c1, tk, x_feasible (d + 2) n r hr X.2.1 X.2.2, nI_clamp, in_eq, true_implies, not_true_eq_false, not_false_eq_true, false_implies, and_true, true_and]
      refine y_goesActive d n r hr _ X hQ hC hs h0w _ (fun h' X' => ?_)
      simp only [SV, U_Ne_decides (cm _), SA, SB]
      exact kk h' X'
  · rw [if_neg g] at kk
    have T : ¬ ((tlR p r (mFs p r)).2.2 = -1 ∨ (tlR p r (mFs p r)).1 < (tlR p r (mFs p r)).2.1) := fun q => g (t1.mp q)
    obtain ⟨u1, u2, j, hj, u3, u4⟩ := t2 g
    have tk : ∀ Q', callD (d + 3) 37 [.ref n, .int (nI r), .int (mFs p r)] h Q' = Q' (some (.int (nI 1))) (sIA (sIA h (n + 4) (up1 (hia h (n + 4)) r (mLeast p r))) (n + 6) (up1 (hia h (n + 6)) r (nI j))) := fun Q' => by rw [x_takesLeast d n r hr (mFs p r) X.2.1 X.2.2, if_neg T, u1, u2, u3]
    rw [u3, nI_clamp (by omega)] at kk
    have hp : up1 (up1 (up1 p (105 + 7 * r + 0) (mLeast p r)) (105 + 7 * r + 2) (nI j)) (105 + 7 * r + 1) (if mLeast p r < gR p r 1 then mLeast p r else gR p r 1) = mTake p r j := by
      unfold mTake; rw [u4]; rfl
    have X1 := ((X.dist hr (mLeast p r)).suc hr (nI j)).bnd hr (if mLeast p r < gR p r 1 then mLeast p r else gR p r 1)
    rw [hp] at X1
    have hT6 : mTake p r j 6 = p 6 := by unfold mTake; rw [up1_n _ _ (by omega), up1_n _ _ (by omega), up1_n _ _ (by omega)]
    have hTl : ql (mTake p r j) = ql p := by unfold ql; rw [hT6]
    have hTn : mNb (mTake p r j) r = mNb p r := by unfold mTake; rw [mNb_up hr (by omega), mNb_up hr (by omega), mNb_up hr (by omega)]
    have hcn := cnt_ann (mNb_b p r).1 hw
    simp (disch := omega) only [SG, SK, SM, sIA_c, up1_s, up1_n, up1_up1] at X1
    simp (disch := omega) only [U_Ne_decides (cm _), SA, SB, SC1, SC2, SG, SV, SK, SM, sIA_c, sh, e4, e5, tk, e_min, x_feasible (d + 2) n r hr X.2.1 X.2.2, eqI, Nat.one_ne_zero, n4, n5, n6, nI_clamp, in_eq, up1_s, up1_n, up1_up1, true_implies, not_true_eq_false, not_false_eq_true, false_implies, and_true, true_and]
    refine y_sends (d + 2) n r hr _ _ X1 (by rw [hTl, hT6]; exact hQ.1) (by rw [hTl]; omega) _ (fun h' X2 => ?_)
    obtain ⟨sh, -⟩ := X2.2.1.all
    have e4 := X2.2.2.2.2.2.1 r hr
    have e3 := X2.2.2.2.2.1 r hr
    have fN : mNb (mSendAll (mTake p r j) (nI 2) r ask) r = mNb p r := (mNb_sall hr).trans hTn
    rw [fN] at e3
    have hq6 := mSendAll_6 (k := nI 2) (r := r) (set := ask) (show mTake p r j 6 = nI (ql p) from hT6.trans hQ.1) (by omega)
    have hql := ql_of hq6 (by omega)
    by_cases c : gR (mSendAll (mTake p r j) (nI 2) r ask) r 0 = gR p r 0
    · rw [if_pos c] at kk
      simp (disch := omega) only [SV, U_Ne_decides (cm _), SA, SB, SC1, SC2, SG, sh, e4, c, nI_clamp, in_eq, true_implies, not_true_eq_false, not_false_eq_true, false_implies, and_true, true_and]
      exact kk h' X2
    · rw [if_neg c, fN] at kk
      simp (disch := omega) only [SV, U_Ne_decides (cm _), SA, SB, SC1, SC2, SG, sh, e3, e4, c, nI_clamp, in_eq, true_implies, not_true_eq_false, not_false_eq_true, false_implies, and_true, true_and]
      refine y_sends (d + 2) n r hr _ _ X2 (by rw [hql]; exact hq6) (by rw [hql]; omega) _ (fun h'' X3 => ?_)
      simp only [SV, U_Ne_decides (cm _), SA, SB]
      exact kk h'' X3
theorem y_looksAt (d n r o : Nat) (hr : r < 7) (ho : o < 7) {h0 h : MH} {p : RW} (X : XN h0 n h p) (Q : RT) (kk : ∀ h', XN h0 n h' (if gR p r 2 = nI o ∧ gR p r 0 < mBy p r o then up1 p (105 + 7 * r + 6) (nI 1) else p) → Q none h') : callD (d + 3) 32 [.ref n, .int (nI r), .int (nI o)] h Q := by
  obtain ⟨sh, h24⟩ := X.2.1.all
  have e4 := X.2.2.2.2.2.1 r hr
  have e6 := X.2.2.2.2.2.2.2.1 r hr
  rw [E_Ne_looksAtSuccessor]
  by_cases c : gR p r 2 = nI o
  · by_cases c2 : gR p r 0 < mBy p r o
    · rw [if_pos ⟨c, c2⟩] at kk
      have c2' : ¬ mBy p r o ≤ gR p r 0 := Int32.not_le.mpr c2
      have X1 := X.wor1 hr
      unfold sh1 at X1
      simp (disch := omega) only [U_Ne_looksAtSuccessor (cm _), SA, SB, SC1, SC2, SG, SV, sh, e4, e6, c, c2', x_by d n r o hr ho X.2.1 X.2.2, nI_clamp, in_eq, true_implies, not_true_eq_false, not_false_eq_true, false_implies, and_true, true_and]
      exact kk _ X1
    · rw [if_neg (fun q => c2 q.2)] at kk
      have c2' : mBy p r o ≤ gR p r 0 := Int32.not_lt.mp c2
      simp (disch := omega) only [U_Ne_looksAtSuccessor (cm _), SA, SB, SC1, SC2, SG, SV, sh, e4, e6, c, c2', x_by d n r o hr ho X.2.1 X.2.2, nI_clamp, in_eq, true_implies, not_true_eq_false, not_false_eq_true, false_implies, and_true, true_and]
      exact kk _ X
  · rw [if_neg (fun q => c q.1)] at kk
    simp (disch := omega) only [U_Ne_looksAtSuccessor (cm _), SA, SB, SC1, SC2, SG, SV, sh, e4, e6, c, nI_clamp, in_eq, true_implies, not_true_eq_false, not_false_eq_true, false_implies, and_true, true_and]
    exact kk _ X
