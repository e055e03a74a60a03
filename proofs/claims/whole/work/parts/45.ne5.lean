/-! ===== the program's net: goes active, ends, decides ===== -/
set_option maxHeartbeats 2000000 in
theorem y_goesActive (d n r : Nat) (hr : r < 7) (ow : Int32) {h0 h : MH} {p : RW} (X : XN h0 n h p) (hQ : QL p 413) (hC : CN p) (hs : SU (gR p r 2)) (h0w : mNb p r = nI 0 → ow = nI 0) (Q : RT) (kk : ∀ h', XN h0 n h' (mGo p r ow) → Q none h') : callD (d + 3) 38 [.ref n, .int (nI r), .int ow] h Q := by
  obtain ⟨sh, h24⟩ := X.2.1.all
  have n4 : 24 ≤ n + 4 := by omega
  have n5 : 24 ≤ n + 5 := by omega
  have n6 : 24 ≤ n + 6 := by omega
  have n7 : 24 ≤ n + 7 := by omega
  have n8 : 24 ≤ n + 8 := by omega
  have e3 := X.2.2.2.2.1 r hr
  have e6 := X.2.2.2.2.2.2.2.1 r hr
  rw [E_Ne_goesActive]
  have key : ∀ v : Int32, v = (if gR p r 2 = -1 then nI 9999 else mBy p r (gR p r 2).toNatClampNeg) → WP cd_Ne_goesActive (callD (d + 2)) Q (hcc h, hcu h) 32 [.int v, .int (nI r), .ref (n + 4)] [some (.ref n), some (.int (nI r)), some (.int ow)] h := by
    intro v hv
    by_cases c : mNb p r = nI 0
    · have hw := h0w c
      subst hw
      have hv9 : v = nI 9999 := by
        rw [hv]
        rcases hs with e | ⟨o, ho, e⟩
        · rw [if_pos e]
        · rw [e, if_neg (by rw [nI_m1 (by omega)]; exact id), nI_clamp (by omega)]; exact nb0_by hC hr c ho
      have X1 := ((((((X.dist hr v).bnd hr v).wor0 hr).suc hr (-1)).act0 hr).out hr (nI 0)).owd hr (nI 0)
      rw [hv9, ← mGo_0 hr hC hs c] at X1
      subst hv9
      unfold sh1 at X1
      simp (disch := omega) only [SG, SK, SM, sIA_c, up1_s, up1_n, up1_up1, up1_c] at X1
      simp (disch := omega) only [U_Ne_goesActive (cm _), SA, SB, SG, SV, SK, SM, sIA_c, sh, e3, c, n4, n5, n6, n7, n8, nI_clamp, in_eq, up1_s, up1_n, up1_up1, up1_c, true_implies, not_true_eq_false, not_false_eq_true, false_implies, and_true, true_and]
      exact kk _ X1
    · have X1 := (((((X.dist hr v).bnd hr v).wor0 hr).act1 hr).out hr (mNb p r)).owd hr ow
      have hp : up1 (up1 (up1 (up1 (up1 (up1 p (105 + 7 * r + 0) v) (105 + 7 * r + 1) v) (105 + 7 * r + 6) (nI 0)) (105 + 7 * r + 3) (nI 1)) (105 + 7 * r + 4) (mNb p r)) (105 + 7 * r + 5) ow = up1 (mAct1 p r ow) (105 + 7 * r + 4) (mNb p r) := by
        unfold mAct1
        rw [hv]
        simp (disch := omega) only [Nat.add_zero, up1_c]
      rw [hp] at X1
      have hQ1 : QL (up1 (mAct1 p r ow) (105 + 7 * r + 4) (mNb p r)) 413 := by
        rw [QL_up (by omega)]
        unfold mAct1
        rw [QL_up (by omega), QL_up (by omega), QL_up (by omega), QL_up (by omega), QL_up (by omega)]
        exact hQ
      unfold sh1 at X1
      simp (disch := omega) only [SG, SK, SM, sIA_c, up1_s, up1_n, up1_up1] at X1
      simp (disch := omega) only [U_Ne_goesActive (cm _), SA, SB, SC1, SC2, SG, SV, SK, SM, sIA_c, sh, e3, c, n4, n5, n6, n7, n8, nI_clamp, in_eq, up1_s, up1_n, up1_up1, true_implies, not_true_eq_false, not_false_eq_true, false_implies, and_true, true_and]
      refine y_sends (d + 1) n r hr _ _ X1 hQ1.1 (by have := hQ1.2; have := cnt_le (mNb p r); omega) _ (fun h' X2 => ?_)
      simp only [SV, U_Ne_goesActive (cm _), SA, SB]
      rw [← mGo_n hr c] at X2
      exact kk h' X2
  rcases hs with e | ⟨o, ho, e⟩
  · have := key (nI 9999) (by rw [if_pos e])
    simp (disch := omega) only [U_Ne_goesActive (cm _), SA, SB, SC1, SC2, SG, SV, sh, e6, e, nI_clamp, in_eq, true_implies, not_true_eq_false, not_false_eq_true, false_implies, and_true, true_and] at this ⊢
    exact this
  · have := key (mBy p r o) (by rw [e, if_neg (by rw [nI_m1 (by omega)]; exact id), nI_clamp (by omega)])
    simp (disch := omega) only [U_Ne_goesActive (cm _), SA, SB, SC1, SC2, SG, SV, sh, e6, e, nI_clamp, in_eq, nI_m1, x_by d n r o hr ho X.2.1 X.2.2, true_implies, not_true_eq_false, not_false_eq_true, false_implies, and_true, true_and] at this ⊢
    exact this
