/-! ===== the reference delivers, once it is told which ===== -/
theorem f_takeOut (d i : Nat) {h : MH} (hM : MoS h) (hQ : QL (hia h 275) 460) (hi : i < ql (hia h 275)) (Q : RT) : callD (d + 1) 212 [.ref 273, .int (nI i)] h Q = Q none (sIA h 275 (mOut (hia h 275) i)) := e_takeOut d (ql (hia h 275)) i hQ.2 hi hM hQ.1 Q
theorem t142_deliver (d : Nat) (a b c e : Int32) {h : MH} (hM : MoS h) (Q : RT) (lm : Nat × Nat) : WP cd_Mo_deliver (callD d) Q lm 142 [] [some (.ref 273), some (.int a), some (.int b), some (.int c), some (.int e)] h = Q (some (.int b)) (sIA h 275 (mTime (hia h 275))) := by
  obtain ⟨m1, m2, m3, m4⟩ := hM.row
  unfold mTime
  by_cases q : hia h 275 5 < nI 999
  · have q' : ¬ nI 999 ≤ hia h 275 5 := Int32.not_le.mpr q
    simp (disch := omega) only [U_Mo_deliver (cm _), SA, SB, SG, SV, m1, m2, m3, m4, nI_clamp, in_eq, q, q', if_true, Nat.reduceLeDiff, true_implies, not_true_eq_false, not_false_eq_true, false_implies, true_and, and_true]
  · have q' : nI 999 ≤ hia h 275 5 := Int32.not_lt.mp q
    simp (disch := omega) only [U_Mo_deliver (cm _), SA, SB, SG, SV, m1, m2, m3, m4, nI_clamp, in_eq, q, q', if_false, Nat.reduceLeDiff, true_implies, not_true_eq_false, not_false_eq_true, false_implies, true_and, and_true]
set_option maxHeartbeats 2000000 in
theorem t4_deliver (d i k f t dd : Nat) {h : MH} (hM : MoS h) (hm : MV (hia h 275) i k f t dd) (hQ : QL (hia h 275) 420) (hi : i < ql (hia h 275)) (hs : SU (gR (hia h 275) t 2)) (Q : RT) (lm : Nat × Nat) : WP cd_Mo_deliver (callD (d + 8)) Q lm 4 [.int (nI i)] [some (.ref 273), none, none, none, none] h = Q (some (.int (nI k))) (sIA h 275 (mDlv (hia h 275) i k f t dd)) := by
  obtain ⟨m1, m2, m3, m4⟩ := hM.row
  obtain ⟨k1, k2, k3, k4, v1, v2, v3, v4⟩ := hm
  have hq2 := hQ.2
  have hP : ∃ P, mOut (up1 (hia h 275) (56 + 7 * t + f) (nI dd)) i = P := ⟨_, rfl⟩
  obtain ⟨P, eP⟩ := hP
  have hQ1 : QL P 420 := by rw [← eP]; exact QL_of mOut_6 (by rw [ql_up (by omega)]; omega) (by omega)
  have hQ2 := QL_mono hQ1 (M := 439) (by omega)
  have hQ3 := QL_mono hQ1 (M := 453) (by omega)
  have hs1 : SU (gR P t 2) := by rw [← eP]; unfold gR; rw [mOut_lo (by omega) (by omega), up1_n _ _ (by omega)]; exact hs
  have hto : ∀ Q', callD (d + 8) 212 [.ref 273, .int (nI i)] (sIA h 275 (up1 (hia h 275) (56 + 7 * t + f) (nI dd))) Q' = Q' none (sIA h 275 P) := fun Q' => by
    rw [f_takeOut (d + 7) i (h := sIA h 275 (up1 (hia h 275) (56 + 7 * t + f) (nI dd))) hM (by rw [hia_s, QL_up (by omega)]; exact QL_mono hQ (by omega)) (by rw [hia_s, ql_up (by omega)]; exact hi), hia_s, SK.2.2.2.1, eP]
  unfold mDlv
  rw [eP]
  unfold mHear
  have hsa := fun a Q' => f_sendAll (d + 5) t k3 (nI 2) a (h := sIA h 275 P) hM (by rw [hia_s]; exact hQ3) Q'
  have hde := fun a Q' => e_decide (d + 1) t k3 a (h := sIA h 275 P) hM (by rw [hia_s]; exact hQ2) (by rw [hia_s]; exact hs1) Q'
  have hta := fun Q' => e_takesActive d t f k k3 k2 k1 (h := sIA h 275 P) hM (by rw [hia_s]; exact hQ2) (by rw [hia_s]; exact hs1) Q'
  simp only [hia_s, SK.2.2.2.1] at hsa hde hta
  have ht142 := fun (a b c e : Int32) (p2 : RW) => t142_deliver (d + 8) a b c e (h := sIA h 275 p2) hM Q lm
  simp only [hia_s, SK.2.2.2.1] at ht142
  by_cases c0 : t = 0
  · rw [if_pos c0]
    subst c0
    by_cases ck : k = 1
    · subst ck
      rw [if_pos rfl]
      unfold sh1
      simp (disch := omega) only [↓ht142, hto, hsa, U_Mo_deliver (cm _), SA, SB, SC1, SC2, SG, SV, SK, m1, m2, m3, m4, v1, v2, v3, v4, e_messageAt, pk_mul, nI_add, nI_clamp, in_eq, eqI, up1_s, Nat.reduceLeDiff, true_implies, not_true_eq_false, not_false_eq_true, false_implies, true_and, and_true]
    · rw [if_neg ck]
      simp (disch := omega) only [↓ht142, hto, hsa, U_Mo_deliver (cm _), SA, SB, SC1, SC2, SG, SV, SK, m1, m2, m3, m4, v1, v2, v3, v4, e_messageAt, pk_mul, nI_add, nI_clamp, in_eq, eqI, ck, up1_s, Nat.reduceLeDiff, true_implies, not_true_eq_false, not_false_eq_true, false_implies, true_and, and_true]
  · rw [if_neg c0]
    by_cases c3 : gR P t 3 = nI 0
    · rw [if_pos c3]
      unfold gR at c3
      by_cases ck : k = 1
      · subst ck
        rw [if_pos rfl]
        unfold sh1
        simp (disch := omega) only [↓ht142, hto, hde, U_Mo_deliver (cm _), SA, SB, SC1, SC2, SG, SV, SK, m1, m2, m3, m4, v1, v2, v3, v4, e_messageAt, e_routerAt, pk_mul, nI_add, nI_clamp, in_eq, eqI, c0, c3, up1_s, Nat.reduceLeDiff, true_implies, not_true_eq_false, not_false_eq_true, false_implies, true_and, and_true]
      · rw [if_neg ck]
        simp (disch := omega) only [↓ht142, hto, hde, U_Mo_deliver (cm _), SA, SB, SC1, SC2, SG, SV, SK, m1, m2, m3, m4, v1, v2, v3, v4, e_messageAt, e_routerAt, pk_mul, nI_add, nI_clamp, in_eq, eqI, c0, c3, ck, up1_s, Nat.reduceLeDiff, true_implies, not_true_eq_false, not_false_eq_true, false_implies, true_and, and_true]
    · rw [if_neg c3]
      unfold gR at c3
      simp (disch := omega) only [↓ht142, hto, hta, U_Mo_deliver (cm _), SA, SB, SC1, SC2, SG, SV, SK, m1, m2, m3, m4, v1, v2, v3, v4, e_messageAt, e_routerAt, pk_mul, nI_add, nI_clamp, in_eq, eqI, c0, c3, up1_s, Nat.reduceLeDiff, true_implies, not_true_eq_false, not_false_eq_true, false_implies, true_and, and_true]
