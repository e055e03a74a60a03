theorem tim_eq {t : Nat} (ht : t ≤ 999) : (if t + 1 < 999 then nI (t + 1) else nI 999) = nI t + (if nI t < nI 999 then nI 1 else nI 0) := by
  by_cases c : t + 1 < 999
  · rw [if_pos c, if_pos (by rw [ltI (by omega) (by omega)]; omega), nI_add]
  · rw [if_neg c]
    by_cases c2 : t < 999
    · rw [if_pos (by rw [ltI (by omega) (by omega)]; exact c2), nI_add, show t + 1 = 999 by omega]
    · rw [if_neg (by rw [ltI (by omega) (by omega)]; exact c2), nI_add, show t + 0 = 999 by omega]
set_option maxHeartbeats 2000000 in
theorem y_delivers (d n i k f t dd tm : Nat) {h0 h : MH} {p : RW} (X : XN h0 n h p) (hi : i < ql p) (hQ : QL p 414) (hm : MV p i k f t dd) (hC : CN p) (hs : SU (gR p t 2)) (hw : M7 (gR p t 5)) (hl : nI 0 < gC p t f) (ht : p 5 = nI tm) (htm : tm ≤ 999) (Q : RT) (kk : ∀ h', XN h0 n h' (mDlv p i k f t dd) → Q (some (.int (nI k))) h') : callD (d + 6) 33 [.ref n, .int (nI i)] h Q := by
  obtain ⟨sh, h24⟩ := X.2.1.all
  have n9 : 24 ≤ n + 9 := by omega
  have n2 : 24 ≤ n + 2 := by omega
  have e9 : hfi h n 9 = nI (ql p) := X.2.2.2.2.2.2.2.2.2.2.2.1.trans hQ.1
  have e12 : hfi h n 12 = nI tm := X.2.2.2.2.2.2.2.2.2.2.2.2.2.2.trans ht
  have eq : hia h (n + 9) i = nI (k + 4 * f + 32 * t + 256 * dd) := (X.2.2.2.2.2.2.2.2.2.2.1 i hi).trans hm.pk
  obtain ⟨m1, m2, m3, m4, -⟩ := hm
  obtain ⟨-, -, -, w3⟩ := X.2.2.2.2.2.2.2.2.2.2.2.2.1
  have a3 := w3 t m3
  have hq2 := hQ.2
  have hi0 : ¬ i < 0 := by omega
  have hacp : i + 1 + (ql p - 1 - i) ≤ 420 := by omega
  have hacp2 : i + (ql p - 1 - i) ≤ 420 := by omega
  have hT := tim_eq htm
  have X1 := ((X.rem (QL_mono hQ (by omega)) hi).tol m3 m2 (nI dd)).tim (if tm + 1 < 999 then nI (tm + 1) else nI 999)
  have hrow : mDlv p i k f t dd = mHear (up1 (up1 (mOut p i) (56 + 7 * t + f) (nI dd)) 5 (if tm + 1 < 999 then nI (tm + 1) else nI 999)) t f k := by
    have hs2 : SU (gR (up1 (mOut p i) (56 + 7 * t + f) (nI dd)) t 2) := by
      rw [gR_up (by omega)]; unfold gR; rw [mOut_lo (by omega) (by omega)]; exact hs
    unfold mDlv mTime
    rw [mOut_up (by omega) (by omega), mHear_at5 m2 hs2, mHear_5 m2 hs2, up1_n _ _ (by omega), mOut_lo (by omega) (by omega), ht, hT]
  rw [hrow] at kk
  have g3 : ∀ r j, r < 7 → j < 7 → gR (up1 (up1 (mOut p i) (56 + 7 * t + f) (nI dd)) 5 (if tm + 1 < 999 then nI (tm + 1) else nI 999)) r j = gR p r j := fun r j hr hj => by
    rw [gR_5, gR_up (by omega)]; unfold gR; exact mOut_lo (by omega) (by omega)
  have gc : ∀ r o, r < 7 → o < 7 → gC (up1 (up1 (mOut p i) (56 + 7 * t + f) (nI dd)) 5 (if tm + 1 < 999 then nI (tm + 1) else nI 999)) r o = gC p r o := fun r o hr ho => by
    rw [gC_up (by omega), gC_up (by omega)]; unfold gC; exact mOut_lo (by omega) (by omega)
  have q6 : up1 (up1 (mOut p i) (56 + 7 * t + f) (nI dd)) 5 (if tm + 1 < 999 then nI (tm + 1) else nI 999) 6 = nI (ql p - 1) := by
    rw [up1_n _ _ (by omega), up1_n _ _ (by omega), mOut_6]
  generalize hP :  up1 (up1 (mOut p i) (56 + 7 * t + f) (nI dd)) 5 (if tm + 1 < 999 then nI (tm + 1) else nI 999) = P at *
  simp (disch := omega) only [SG, SK, SM, sIA_c, up1_s, up1_n, up1_up1, up1_c] at X1
  have hQ1 : QL P 413 := QL_of q6 (by omega) (by omega)
  have hC1 : CN P := fun a b h1 h2 => by rw [gc a b h1 h2]; exact hC a b h1 h2
  have hs1 : SU (gR P t 2) := by rw [g3 t 2 m3 (by omega)]; exact hs
  have hw1 : M7 (gR P t 5) := by rw [g3 t 5 m3 (by omega)]; exact hw
  have hnb : ¬ mNb P t = nI 0 := fun z => nb_none z m2 (by rw [gc t f m3 m2]; exact hl)
  have hask : M7 (if k = 1 then sh1 f else nI 0) := by
    split
    · exact m7_sh f m2
    · exact m7_0
  rw [E_Ne_delivers]
  unfold mHear at kk
  simp (disch := omega) only [U_Ne_delivers (cm _), SA, SB, SC1, SC2, SG, SV, SK, SM, sIA_c, sh, e9, e12, eq, n9, n2, hi, hi0, hacp, hacp2, ltI, pk_sub, pk_mul, nI_add, nI_clamp, in_eq, e_kindOf (d + 4) k f t dd m1 m2 m3 m4, e_fromOf (d + 4) k f t dd m1 m2 m3 m4, e_toOf (d + 4) k f t dd m1 m2 m3 m4, e_distanceOf (d + 4) k f t dd m1 m2 m3 m4, e_min, up1_s, up1_n, up1_up1, up1_c, true_implies, not_true_eq_false, not_false_eq_true, false_implies, true_and, and_true]
  refine ⟨⟨by omega, by omega⟩, fun c => ?_, fun c => ?_⟩
  · have c0 : ¬ t = 0 := fun z => c (by rw [z])
    rw [if_neg c0] at kk
    rw [← g3 t 3 m3 (by omega)] at a3
    obtain ⟨sh1', -⟩ := X1.2.1.all
    simp only [SG] at sh1'
    by_cases c3 : gR P t 3 = nI 0
    · rw [if_pos c3] at kk
      by_cases ck : k = 1
      · subst ck
        rw [if_pos rfl] at kk hask
        have Y := y_decides (d + 1) n t m3 (sh1 f) X1 hQ1 hC1 hs1 hask (fun z => absurd z hnb)
        unfold sh1 at Y kk
        simp (disch := omega) only [e_bit, a3, c3, SV, U_Ne_delivers (cm _), SA, SB, SC1, SC2, SG, sh, eqI, true_implies, not_true_eq_false, not_false_eq_true, false_implies, true_and, and_true]
        refine Y _ (fun h' X2 => ?_)
        simp only [SV, U_Ne_delivers (cm _), SA, SB]
        with_reducible exact kk _ X2
      · rw [if_neg ck] at kk
        have Y := y_decides (d + 1) n t m3 (nI 0) X1 hQ1 hC1 hs1 m7_0 (fun _ => rfl)
        simp (disch := omega) only [e_bit, a3, c3, SV, U_Ne_delivers (cm _), SA, SB, SC1, SC2, SG, sh, eqI, ck, true_implies, not_true_eq_false, not_false_eq_true, false_implies, true_and, and_true]
        refine Y _ (fun h' X2 => ?_)
        simp only [SV, U_Ne_delivers (cm _), SA, SB]
        with_reducible exact kk _ X2
    · rw [if_neg c3] at kk
      have Y := y_hears d n t f k m3 m2 m1 X1 hQ1 hC1 hs1 hw1 (fun z => absurd z hnb)
      simp (disch := omega) only [e_bit, a3, c3, SV, U_Ne_delivers (cm _), SA, SB, SC1, SC2, SG, sh, true_implies, not_true_eq_false, not_false_eq_true, false_implies, true_and, and_true]
      refine Y _ (fun h' X2 => ?_)
      simp only [SV, U_Ne_delivers (cm _), SA, SB]
      with_reducible exact kk _ X2
  · have c0 : t = 0 := by
      have := Classical.not_not.mp c
      rw [eqI (by omega) (by omega)] at this
      exact this
    subst c0
    rw [if_pos rfl] at kk
    refine ⟨fun ck => ?_, fun ck => ?_⟩
    · have ck' : ¬ k = 1 := fun z => ck (by rw [z])
      rw [if_neg ck'] at kk
      refine y_sends (d + 4) n 0 (by omega) _ _ X1 hQ1.1 (by have := cnt_le (nI 0); have := hQ1.2; omega) _ (fun h' X2 => ?_)
      simp only [SV, U_Ne_delivers (cm _), SA, SB]
      with_reducible exact kk _ X2
    · have ck' : k = 1 := by
        have := Classical.not_not.mp ck
        rw [eqI (by omega) (by omega)] at this
        exact this
      rw [if_pos ck'] at kk
      have Y := y_sends (d + 4) n 0 (by omega) (nI 2) (sh1 f) X1 hQ1.1 (by have := cnt_le (sh1 f); have := hQ1.2; omega)
      unfold sh1 at Y kk
      refine Y _ (fun h' X2 => ?_)
      simp only [SV, U_Ne_delivers (cm _), SA, SB]
      with_reducible exact kk _ X2
