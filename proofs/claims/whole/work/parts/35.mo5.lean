/-- a router or none -/
def SU (x : Int32) : Prop := x = -1 ∨ ∃ o, o < 7 ∧ x = nI o
theorem nI_0n (x : Int32) (h : ¬ x = nI 0) : (x = nI 0) = False := eq_false h
set_option maxHeartbeats 2000000 in
theorem e_goActive (d r : Nat) (hr : r < 7) (ow : Int32) {h : MH} (hM : MoS h) (hQ : QL (hia h 275) 439) (hs : SU (gR (hia h 275) r 2)) (Q : RT) : callD (d + 6) 204 [.ref 273, .int (nI r), .int ow] h Q = Q none (sIA h 275 (mGo (hia h 275) r ow)) := by
  obtain ⟨m1, m2, m3, m4⟩ := hM.row
  have hQ2 := QL_mono hQ (M := 453) (by omega)
  have hQ3 : QL (mAct2 (hia h 275) r ow) 446 := by
    unfold mAct2
    refine QL_send (N := 439) ?_ (by omega)
    rw [QL_up (by omega)]
    unfold mAct1
    rw [QL_up (by omega), QL_up (by omega), QL_up (by omega), QL_up (by omega), QL_up (by omega)]
    exact hQ
  have h6 : gR (mAct2 (hia h 275) r ow) r 6 = nI 0 := by
    unfold gR mAct2
    rw [mSendAll_lo (by omega) (by omega), up1_n _ _ (by omega)]
    unfold mAct1
    rw [up1_n _ _ (by omega), up1_s]
  have key : callD (d + 6) 204 [.ref 273, .int (nI r), .int ow] h Q = (((¬ mAct2 (hia h 275) r ow (105 + 7 * r + 4) = nI 0) → Q none (sIA h 275 (mAct2 (hia h 275) r ow))) ∧ (¬ ¬ mAct2 (hia h 275) r ow (105 + 7 * r + 4) = nI 0 → callD (d + 5) 206 [.ref 273, .int (nI r)] (sIA h 275 (mAct2 (hia h 275) r ow)) (kont (WP cd_Mo_goActive (callD (d + 5)) Q (hcc h, hcu h)) 125 [] [some (.ref 273), some (.int (nI r)), some (.int ow), some (.int (nI (105 + 7 * r))), some (.int (gR (hia h 275) r 2))]))) := by
    rw [E_Mo_goActive]
    unfold mAct2 mAct1 gR
    rcases hs with hs | ⟨o, ho, hs⟩ <;> unfold gR at hs <;> simp (disch := first | omega | exact hM | (simp only [MoS_s]; exact hM) | (simp (disch := omega) only [QL_hia, QL_up, QL_take, QL_end0]; exact hQ2)) only [U_Mo_goActive (cm _), SA, SB, SC1, SC2, SG, SV, SK, pk_mul, nI_add, nI_clamp, in_eq, m1, m2, m3, m4, hs, true_and, and_true, e_routerAt, e_by, e_neighbours, f_sendAll, nI_m1, m1_nI, up1_s, up1_n, Nat.reduceLeDiff, true_implies, not_true_eq_false, not_false_eq_true, false_implies, if_true, if_false]
  rw [key]
  unfold mGo
  by_cases c : gR (mAct2 (hia h 275) r ow) r 4 = nI 0
  · have c' := c
    unfold gR at c'
    rw [if_pos c]
    simp (disch := first | omega | exact hM | (simp only [MoS_s]; exact hM) | (simp (disch := omega) only [QL_hia, QL_up, QL_take, QL_end0]; exact hQ3) | (simp only [hia_s]; exact h6)) only [c', true_implies, not_true_eq_false, not_false_eq_true, false_implies, and_true, true_and, e_ends0, hia_s, SK, SV, U_Mo_goActive (cm _), SA, SB]
  · have c' := c
    unfold gR at c'
    rw [if_neg c]
    simp only [c', true_implies, not_true_eq_false, not_false_eq_true, false_implies, and_true, true_and]
set_option maxHeartbeats 2000000 in
theorem e_ends (d r : Nat) (hr : r < 7) {h : MH} (hM : MoS h) (hQ : QL (hia h 275) 439) (hs : SU (gR (hia h 275) r 2)) (Q : RT) : callD (d + 7) 206 [.ref 273, .int (nI r)] h Q = Q none (sIA h 275 (mEnds (hia h 275) r)) := by
  obtain ⟨m1, m2, m3, m4⟩ := hM.row
  have hQ2 := QL_mono hQ (M := 446) (by omega)
  unfold mEnds
  by_cases c : gR (hia h 275) r 6 = nI 0
  · rw [if_pos c, e_ends0 (d + 2) r hr hM hQ2 c]
  · rw [if_neg c, E_Mo_ends]
    have c' := c
    unfold gR at c'
    have hs2 : SU (gR (up1 (hia h 275) (105 + 7 * r + 3) (nI 0)) r 2) := by unfold gR; rw [up1_n _ _ (by omega)]; exact hs
    rcases mBest_or (up1 (hia h 275) (105 + 7 * r + 3) (nI 0)) r with e | ⟨o, ho, e⟩
    · rw [if_pos e]
      simp (disch := first | omega | exact hM | (simp only [MoS_s]; exact hM) | (simp (disch := omega) only [QL_hia, QL_up, QL_take, QL_end0]; exact hQ) | (simp only [hia_s]; exact hs2)) only [U_Mo_ends (cm _), SA, SB, SC1, SC2, SG, SV, SK, pk_mul, nI_add, nI_clamp, in_eq, m1, m2, m3, m4, c', e, true_and, and_true, e_routerAt, e_best, e_goActive, up1_s, up1_n, Nat.reduceLeDiff, true_implies, not_true_eq_false, not_false_eq_true, false_implies, gR]
    · rw [if_neg (by rw [e, nI_m1 (by omega)]; exact fun q => q)]
      simp (disch := first | omega | exact hM | (simp only [MoS_s]; exact hM) | (simp (disch := omega) only [SG, SK, up1_s, nI_add, nI_clamp, QL_hia, QL_up, QL_take, QL_end0]; exact hQ2)) only [↓t_ends, U_Mo_ends (cm _), SA, SB, SC1, SC2, SG, SV, SK, pk_mul, nI_add, nI_clamp, in_eq, m1, m2, m3, m4, c', e, true_and, and_true, e_routerAt, e_best, e_take, nI_m1, up1_s, up1_n, Nat.reduceLeDiff, true_implies, not_true_eq_false, not_false_eq_true, false_implies, gR, Nat.add_zero]
set_option maxHeartbeats 2000000 in
theorem e_decide (d r : Nat) (hr : r < 7) (ask : Int32) {h : MH} (hM : MoS h) (hQ : QL (hia h 275) 439) (hs : SU (gR (hia h 275) r 2)) (Q : RT) : callD (d + 7) 203 [.ref 273, .int (nI r), .int ask] h Q = Q none (sIA h 275 (mDecide (hia h 275) r ask)) := by
  obtain ⟨m1, m2, m3, m4⟩ := hM.row
  have hQ2 := QL_mono hQ (M := 453) (by omega)
  rw [E_Mo_decide]
  unfold mDecide
  rcases mBest_or (hia h 275) r with e | ⟨o, ho, e⟩
  · rw [if_pos e]
    by_cases c1 : gR (hia h 275) r 0 = nI 9999
    · by_cases c2 : mLeast (hia h 275) r = nI 9999
      · rw [if_pos ⟨c1, c2⟩]
        unfold gR at c1
        rw [Nat.add_zero] at c1
        simp (disch := first | omega | exact hM | (simp only [MoS_s]; exact hM) | (simp (disch := omega) only [QL_hia, QL_up, QL_take, QL_end0]; exact hQ2)) only [U_Mo_decide (cm _), SA, SB, SC1, SC2, SG, SV, SK, pk_mul, nI_add, nI_clamp, in_eq, m1, m2, m3, m4, c1, c2, e, true_and, and_true, e_routerAt, e_best, e_leastBy, f_sendAll, up1_s, up1_n, Nat.reduceLeDiff, true_implies, not_true_eq_false, not_false_eq_true, false_implies, gR]
      · rw [if_neg (fun q => c2 q.2)]
        unfold gR at c1
        rw [Nat.add_zero] at c1
        simp (disch := first | omega | exact hM | exact hQ | exact hs) only [U_Mo_decide (cm _), SA, SB, SC1, SC2, SG, SV, SK, pk_mul, nI_add, nI_clamp, in_eq, m1, m2, m3, m4, c1, c2, e, true_and, and_true, e_routerAt, e_best, e_leastBy, e_goActive, up1_s, up1_n, Nat.reduceLeDiff, true_implies, not_true_eq_false, not_false_eq_true, false_implies]
    · rw [if_neg (fun q => c1 q.1)]
      unfold gR at c1
      rw [Nat.add_zero] at c1
      simp (disch := first | omega | exact hM | exact hQ | exact hs) only [U_Mo_decide (cm _), SA, SB, SC1, SC2, SG, SV, SK, pk_mul, nI_add, nI_clamp, in_eq, m1, m2, m3, m4, c1, e, true_and, and_true, e_routerAt, e_best, e_leastBy, e_goActive, up1_s, up1_n, Nat.reduceLeDiff, true_implies, not_true_eq_false, not_false_eq_true, false_implies]
  · rw [if_neg (by rw [e, nI_m1 (by omega)]; exact fun q => q), e, nI_clamp (by omega)]
    have hQ3 : QL (mSendAll (mTake (hia h 275) r o) (nI 2) r ask) 453 := QL_mono (QL_send (N := 439) (by rw [QL_take]; exact hQ) (by omega)) (by omega)
    by_cases c : gR (mSendAll (mTake (hia h 275) r o) (nI 2) r ask) r 0 = gR (hia h 275) r 0
    · rw [if_pos c]
      unfold gR at c
      rw [Nat.add_zero] at c
      simp (disch := first | omega | exact hM | (simp only [MoS_s]; exact hM) | (simp (disch := omega) only [QL_hia, QL_up, QL_take, QL_end0]; exact hQ2)) only [U_Mo_decide (cm _), SA, SB, SC1, SC2, SG, SV, SK, pk_mul, nI_add, nI_clamp, in_eq, m1, m2, m3, m4, c, e, true_and, and_true, e_routerAt, e_best, e_take, f_sendAll, nI_m1, up1_s, Nat.reduceLeDiff, true_implies, not_true_eq_false, not_false_eq_true, false_implies]
    · rw [if_neg c]
      unfold gR at c
      rw [Nat.add_zero] at c
      simp (disch := first | omega | exact hM | (simp only [MoS_s]; exact hM) | (simp (disch := omega) only [QL_hia, QL_up, QL_take, QL_end0]; exact hQ2) | (simp (disch := omega) only [QL_hia, QL_up, QL_take, QL_end0]; exact hQ3)) only [U_Mo_decide (cm _), SA, SB, SC1, SC2, SG, SV, SK, pk_mul, nI_add, nI_clamp, in_eq, m1, m2, m3, m4, c, e, true_and, and_true, e_routerAt, e_best, e_take, e_neighbours, f_sendAll, nI_m1, up1_s, Nat.reduceLeDiff, true_implies, not_true_eq_false, not_false_eq_true, false_implies]
