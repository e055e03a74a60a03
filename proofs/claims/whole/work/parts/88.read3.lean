/-! ===== parts ===== -/
set_option maxHeartbeats 1000000 in
theorem x_wordAt (d q k cl : Nat) {T : TP} {om : Nat} (hom : om ≤ 1) {h : MH} (r : RS h T om q k cl) (Q : RT) : callD (d + 2) 62 [.ref 213] h Q = Q (some (.int (if wAt T om q = 99 then -1 else nI (wAt T om q)))) h := by
  have s := r.1
  unfold XSr at s
  have h5 := r.2.2.2.2
  have W := fun x hx => x_hasWord d q x hx r.2.1
  have w8 := W 8 (by omega)
  have w9 := W 9 (by omega)
  have w10 := W 10 (by omega)
  have w11 := W 11 (by omega)
  have w12 := W 12 (by omega)
  have w13 := W 13 (by omega)
  have w14 := W 14 (by omega)
  have w15 := W 15 (by omega)
  have w5 := W 5 (by omega)
  have w16 := W 16 (by omega)
  have w17 := W 17 (by omega)
  rw [E_Re_wordAt]
  unfold wAt
  rcases (show om = 0 ∨ om = 1 by omega) with rfl | rfl
  · by_cases c8 : bW T q 8 = true
    · simp only [c8, b2_t] at w8
      simp only [c8, if_true, if_false, Bool.false_eq_true]
      simp (disch := omega) only [U_Re_wordAt (cm _), SA, SB, SC1, SC2, SG, SV, s, h5, w8, nI_m1, eqI, Nat.one_ne_zero, if_true, if_false, Bool.false_eq_true, Nat.reduceEqDiff, true_or, or_true, true_implies, not_true_eq_false, not_false_eq_true, false_implies, true_and, and_true]
    have f8 : bW T q 8 = false := Bool.eq_false_iff.mpr c8
    simp only [f8, b2_f] at w8
    by_cases c9 : bW T q 9 = true
    · simp only [c9, b2_t] at w9
      simp only [f8, c9, if_true, if_false, Bool.false_eq_true]
      simp (disch := omega) only [U_Re_wordAt (cm _), SA, SB, SC1, SC2, SG, SV, s, h5, w8, w9, nI_m1, eqI, Nat.one_ne_zero, if_true, if_false, Bool.false_eq_true, Nat.reduceEqDiff, true_or, or_true, true_implies, not_true_eq_false, not_false_eq_true, false_implies, true_and, and_true]
    have f9 : bW T q 9 = false := Bool.eq_false_iff.mpr c9
    simp only [f9, b2_f] at w9
    by_cases c14 : bW T q 14 = true
    · simp only [c14, b2_t] at w14
      simp only [f8, f9, c14, if_true, if_false, Bool.false_eq_true]
      simp (disch := omega) only [U_Re_wordAt (cm _), SA, SB, SC1, SC2, SG, SV, s, h5, w8, w9, w14, nI_m1, eqI, Nat.one_ne_zero, if_true, if_false, Bool.false_eq_true, Nat.reduceEqDiff, true_or, or_true, true_implies, not_true_eq_false, not_false_eq_true, false_implies, true_and, and_true]
    have f14 : bW T q 14 = false := Bool.eq_false_iff.mpr c14
    simp only [f14, b2_f] at w14
    by_cases c15 : bW T q 15 = true
    · simp only [c15, b2_t] at w15
      simp only [f8, f9, f14, c15, if_true, if_false, Bool.false_eq_true]
      simp (disch := omega) only [U_Re_wordAt (cm _), SA, SB, SC1, SC2, SG, SV, s, h5, w8, w9, w14, w15, nI_m1, eqI, Nat.one_ne_zero, if_true, if_false, Bool.false_eq_true, Nat.reduceEqDiff, true_or, or_true, true_implies, not_true_eq_false, not_false_eq_true, false_implies, true_and, and_true]
    have f15 : bW T q 15 = false := Bool.eq_false_iff.mpr c15
    simp only [f15, b2_f] at w15
    by_cases c5 : bW T q 5 = true
    · simp only [c5, b2_t] at w5
      simp only [f8, f9, f14, f15, c5, if_true, if_false, Bool.false_eq_true]
      simp (disch := omega) only [U_Re_wordAt (cm _), SA, SB, SC1, SC2, SG, SV, s, h5, w8, w9, w14, w15, w5, nI_m1, eqI, Nat.one_ne_zero, if_true, if_false, Bool.false_eq_true, Nat.reduceEqDiff, true_or, or_true, true_implies, not_true_eq_false, not_false_eq_true, false_implies, true_and, and_true]
    have f5 : bW T q 5 = false := Bool.eq_false_iff.mpr c5
    simp only [f5, b2_f] at w5
    by_cases c16 : bW T q 16 = true
    · simp only [c16, b2_t] at w16
      simp only [f8, f9, f14, f15, f5, c16, if_true, if_false, Bool.false_eq_true]
      simp (disch := omega) only [U_Re_wordAt (cm _), SA, SB, SC1, SC2, SG, SV, s, h5, w8, w9, w14, w15, w5, w16, nI_m1, eqI, Nat.one_ne_zero, if_true, if_false, Bool.false_eq_true, Nat.reduceEqDiff, true_or, or_true, true_implies, not_true_eq_false, not_false_eq_true, false_implies, true_and, and_true]
    have f16 : bW T q 16 = false := Bool.eq_false_iff.mpr c16
    simp only [f16, b2_f] at w16
    by_cases c17 : bW T q 17 = true
    · simp only [c17, b2_t] at w17
      simp only [f8, f9, f14, f15, f5, f16, c17, if_true, if_false, Bool.false_eq_true]
      simp (disch := omega) only [U_Re_wordAt (cm _), SA, SB, SC1, SC2, SG, SV, s, h5, w8, w9, w14, w15, w5, w16, w17, nI_m1, eqI, Nat.one_ne_zero, if_true, if_false, Bool.false_eq_true, Nat.reduceEqDiff, true_or, or_true, true_implies, not_true_eq_false, not_false_eq_true, false_implies, true_and, and_true]
    have f17 : bW T q 17 = false := Bool.eq_false_iff.mpr c17
    simp only [f17, b2_f] at w17
    simp only [f8, f9, f14, f15, f5, f16, f17, if_true, if_false, Bool.false_eq_true]
    simp (disch := omega) only [U_Re_wordAt (cm _), SA, SB, SC1, SC2, SG, SV, s, h5, w8, w9, w14, w15, w5, w16, w17, nI_m1, eqI, Nat.one_ne_zero, if_true, if_false, Bool.false_eq_true, Nat.reduceEqDiff, true_or, or_true, true_implies, not_true_eq_false, not_false_eq_true, false_implies, true_and, and_true]
  · by_cases c8 : bW T q 8 = true
    · simp only [c8, b2_t] at w8
      simp only [c8, if_true, if_false, Bool.false_eq_true]
      simp (disch := omega) only [U_Re_wordAt (cm _), SA, SB, SC1, SC2, SG, SV, s, h5, w8, nI_m1, eqI, Nat.one_ne_zero, if_true, if_false, Bool.false_eq_true, Nat.reduceEqDiff, true_or, or_true, true_implies, not_true_eq_false, not_false_eq_true, false_implies, true_and, and_true]
    have f8 : bW T q 8 = false := Bool.eq_false_iff.mpr c8
    simp only [f8, b2_f] at w8
    by_cases c9 : bW T q 9 = true
    · simp only [c9, b2_t] at w9
      simp only [f8, c9, if_true, if_false, Bool.false_eq_true]
      simp (disch := omega) only [U_Re_wordAt (cm _), SA, SB, SC1, SC2, SG, SV, s, h5, w8, w9, nI_m1, eqI, Nat.one_ne_zero, if_true, if_false, Bool.false_eq_true, Nat.reduceEqDiff, true_or, or_true, true_implies, not_true_eq_false, not_false_eq_true, false_implies, true_and, and_true]
    have f9 : bW T q 9 = false := Bool.eq_false_iff.mpr c9
    simp only [f9, b2_f] at w9
    by_cases c10 : bW T q 10 = true
    · simp only [c10, b2_t] at w10
      simp only [f8, f9, c10, if_true, if_false, Bool.false_eq_true]
      simp (disch := omega) only [U_Re_wordAt (cm _), SA, SB, SC1, SC2, SG, SV, s, h5, w8, w9, w10, nI_m1, eqI, Nat.one_ne_zero, if_true, if_false, Bool.false_eq_true, Nat.reduceEqDiff, true_or, or_true, true_implies, not_true_eq_false, not_false_eq_true, false_implies, true_and, and_true]
    have f10 : bW T q 10 = false := Bool.eq_false_iff.mpr c10
    simp only [f10, b2_f] at w10
    by_cases c11 : bW T q 11 = true
    · simp only [c11, b2_t] at w11
      simp only [f8, f9, f10, c11, if_true, if_false, Bool.false_eq_true]
      simp (disch := omega) only [U_Re_wordAt (cm _), SA, SB, SC1, SC2, SG, SV, s, h5, w8, w9, w10, w11, nI_m1, eqI, Nat.one_ne_zero, if_true, if_false, Bool.false_eq_true, Nat.reduceEqDiff, true_or, or_true, true_implies, not_true_eq_false, not_false_eq_true, false_implies, true_and, and_true]
    have f11 : bW T q 11 = false := Bool.eq_false_iff.mpr c11
    simp only [f11, b2_f] at w11
    by_cases c12 : bW T q 12 = true
    · simp only [c12, b2_t] at w12
      simp only [f8, f9, f10, f11, c12, if_true, if_false, Bool.false_eq_true]
      simp (disch := omega) only [U_Re_wordAt (cm _), SA, SB, SC1, SC2, SG, SV, s, h5, w8, w9, w10, w11, w12, nI_m1, eqI, Nat.one_ne_zero, if_true, if_false, Bool.false_eq_true, Nat.reduceEqDiff, true_or, or_true, true_implies, not_true_eq_false, not_false_eq_true, false_implies, true_and, and_true]
    have f12 : bW T q 12 = false := Bool.eq_false_iff.mpr c12
    simp only [f12, b2_f] at w12
    by_cases c13 : bW T q 13 = true
    · simp only [c13, b2_t] at w13
      simp only [f8, f9, f10, f11, f12, c13, if_true, if_false, Bool.false_eq_true]
      simp (disch := omega) only [U_Re_wordAt (cm _), SA, SB, SC1, SC2, SG, SV, s, h5, w8, w9, w10, w11, w12, w13, nI_m1, eqI, Nat.one_ne_zero, if_true, if_false, Bool.false_eq_true, Nat.reduceEqDiff, true_or, or_true, true_implies, not_true_eq_false, not_false_eq_true, false_implies, true_and, and_true]
    have f13 : bW T q 13 = false := Bool.eq_false_iff.mpr c13
    simp only [f13, b2_f] at w13
    simp only [f8, f9, f10, f11, f12, f13, if_true, if_false, Bool.false_eq_true]
    simp (disch := omega) only [U_Re_wordAt (cm _), SA, SB, SC1, SC2, SG, SV, s, h5, w8, w9, w10, w11, w12, w13, nI_m1, eqI, Nat.one_ne_zero, if_true, if_false, Bool.false_eq_true, Nat.reduceEqDiff, true_or, or_true, true_implies, not_true_eq_false, not_false_eq_true, false_implies, true_and, and_true]
def ptH (h : MH) (k : Nat) : MH := sFI h 213 (up1 (hfi h 213) 4 (nI (k + 1)))
theorem pt_f {h : MH} {k a : Nat} (e : ¬ a = 213) : hfi (ptH h k) a = hfi h a := by unfold ptH; exact hfi_nn _ _ e
theorem pt_g {h : MH} {k : Nat} : hfi (ptH h k) 213 = up1 (hfi h 213) 4 (nI (k + 1)) := by unfold ptH; exact hfi_s _ _ _
theorem RF_pt (h : MH) (k : Nat) : RF h (ptH h k) := ⟨⟨rfl, rfl, rfl, SHE.refl h, rfl, rfl⟩, fun a h1 _ => pt_f h1, by rw [pt_g, up1_n _ _ (by omega)], by rw [pt_f (by omega)], fun _ _ => rfl⟩
theorem RS_pt {h : MH} {T : TP} {om q k cl : Nat} (r : RS h T om q k cl) : RS (ptH h k) T om q (k + 1) cl := by
  obtain ⟨s, t, h3, h4, h5⟩ := r
  exact ⟨s, XTk_e (SHE.refl h) rfl (pt_f (by omega)) t, by rw [pt_g, up1_n _ _ (by omega)]; exact h3, by rw [pt_g, up1_s], by rw [pt_g, up1_n _ _ (by omega)]; exact h5⟩
theorem wAt_ok {T : TP} {om q : Nat} (hom : om ≤ 1) (h : wAt T om q ≠ 99) : wAt T om q < 23 ∧ tTy T q ≠ 0 ∧ (om = 0 → wAt T om q < 7) ∧ (om = 1 → wAt T om q = 4 ∨ wAt T om q = 5 ∨ wAt T om q = 7 ∨ wAt T om q = 8 ∨ wAt T om q = 9 ∨ wAt T om q = 16) := by
  unfold wAt at h ⊢
  rcases (show om = 0 ∨ om = 1 by omega) with rfl | rfl
  · by_cases c8 : bW T q 8 = true
    · rw [if_pos c8]; exact ⟨by omega, bW_ty c8, fun _ => by omega, fun z => by omega⟩
    rw [if_neg c8] at h ⊢
    by_cases c9 : bW T q 9 = true
    · rw [if_pos c9]; exact ⟨by omega, bW_ty c9, fun _ => by omega, fun z => by omega⟩
    rw [if_neg c9, if_neg (by omega)] at h ⊢
    by_cases c14 : bW T q 14 = true
    · rw [if_pos c14]; exact ⟨by omega, bW_ty c14, fun _ => by omega, fun z => by omega⟩
    rw [if_neg c14] at h ⊢
    by_cases c15 : bW T q 15 = true
    · rw [if_pos c15]; exact ⟨by omega, bW_ty c15, fun _ => by omega, fun z => by omega⟩
    rw [if_neg c15] at h ⊢
    by_cases c5 : bW T q 5 = true
    · rw [if_pos c5]; exact ⟨by omega, bW_ty c5, fun _ => by omega, fun z => by omega⟩
    rw [if_neg c5] at h ⊢
    by_cases c16 : bW T q 16 = true
    · rw [if_pos c16]; exact ⟨by omega, bW_ty c16, fun _ => by omega, fun z => by omega⟩
    rw [if_neg c16] at h ⊢
    by_cases c17 : bW T q 17 = true
    · rw [if_pos c17]; exact ⟨by omega, bW_ty c17, fun _ => by omega, fun z => by omega⟩
    rw [if_neg c17] at h
    exact absurd rfl h
  · by_cases c8 : bW T q 8 = true
    · rw [if_pos c8]; exact ⟨by omega, bW_ty c8, fun z => by omega, fun _ => by omega⟩
    rw [if_neg c8] at h ⊢
    by_cases c9 : bW T q 9 = true
    · rw [if_pos c9]; exact ⟨by omega, bW_ty c9, fun z => by omega, fun _ => by omega⟩
    rw [if_neg c9, if_pos rfl] at h ⊢
    by_cases c10 : bW T q 10 = true
    · rw [if_pos c10]; exact ⟨by omega, bW_ty c10, fun z => by omega, fun _ => by omega⟩
    rw [if_neg c10] at h ⊢
    by_cases c11 : bW T q 11 = true
    · rw [if_pos c11]; exact ⟨by omega, bW_ty c11, fun z => by omega, fun _ => by omega⟩
    rw [if_neg c11] at h ⊢
    by_cases c12 : bW T q 12 = true
    · rw [if_pos c12]; exact ⟨by omega, bW_ty c12, fun z => by omega, fun _ => by omega⟩
    rw [if_neg c12] at h ⊢
    by_cases c13 : bW T q 13 = true
    · rw [if_pos c13]; exact ⟨by omega, bW_ty c13, fun z => by omega, fun _ => by omega⟩
    rw [if_neg c13] at h
    exact absurd rfl h
set_option maxHeartbeats 2000000 in
theorem x_part (n d op q k cl : Nat) {T : TP} {om : Nat} (hom : om ≤ 1) (HP : HPx T om n) (hop : op ≤ 8) (hn : op < 8 → 4 * (8 - (op + 1)) + 2 ≤ n) (hk : k ≤ 50) {h : MH} (r : RS h T om q k cl) (hc : cl + T.2 < 448 + q) (Q : RT) (kk : XOK h T om q cl (1 + 2 * (8 - op)) (pPa T om (pCh T om n) op q k) Q) : callD (d + 4 * n + 6) 61 [.ref 213, .int (nI op)] h Q := by
  have s := r.1
  unfold XSr at s
  have hq := r.2.1.2.2.1
  have h4 := r.2.2.2.1
  have h214 := r.2.1.2.2.2.2.2.2.2
  rw [E_Re_readsPart]
  unfold pPa at kk
  have G := x_hasSign (d + 4 * n + 4) q 91 (by omega) r.2.1
  by_cases g : bG T q 91 = true
  · simp only [g, b2_t] at G
    rw [if_pos g] at kk
    simp (disch := omega) only [U_Re_readsPart (cm _), SA, SB, SC1, SC2, SG, SV, s, G, eqI, Nat.one_ne_zero, true_implies, not_true_eq_false, not_false_eq_true, false_implies, true_and, and_true]
    refine x_bracket n d 2 93 op q k cl HP (by omega) hop hn (by omega) hk r hc (bG_ty g) (1 + 2 * (8 - op)) ?_ _ ?_
    · intro z
      rw [dD_2]
      omega
    · unfold XOK
      cases hb : pBr T (pCh T om n) 2 93 op q k with
      | error f =>
        rw [hb] at kk
        intro h' E
        have K := kk h' E
        simp (disch := omega) only [U_Re_readsPart (cm _), SA, SB, SV, true_or, true_implies, true_and]
        exact K
      | ok w =>
        obtain ⟨v, q2, k2⟩ := w
        rw [hb] at kk
        simp only at kk ⊢
        intro h' cl' F' r' e6 c1 c2 c3 c4
        have K := kk h' cl' F' r' e6 c1 c2 c3 c4
        simp (disch := omega) only [U_Re_readsPart (cm _), SA, SB, SV, or_true, true_implies, true_and]
        exact K
  have g' := Bool.eq_false_iff.mpr g
  simp only [g', b2_f] at G
  rw [if_neg g] at kk
  have NM := x_hasNumber (d + 4 * n + 4) q 0 1000 (by omega) (by omega) r.2.1
  have WA := x_wordAt (d + 4 * n + 3) q k cl hom r
  have FL := r_fails (d + 4 * n + 4) r
  have rp := RS_pt r
  have AP := r_adv (d + 4 * n + 3) rp
  have ra := RS_av rp
  have k4p : hkd (ptH h k) 213 = 4 := s.1
  have r0p : hfr (ptH h k) 213 0 = some 214 := s.2.1
  have k5p : hkd (ptH h k) 214 = 5 := s.2.2.2.2.1
  have k4a : hkd (avH (ptH h k) T q) 213 = 4 := s.1
  have r0a : hfr (avH (ptH h k) T q) 213 0 = some 214 := s.2.1
  have k5a : hkd (avH (ptH h k) T q) 214 = 5 := s.2.2.2.2.1
  have pe : sFI h 213 (up1 (hfi h 213) 4 (nI (k + 1))) = ptH h k := rfl
  have n5p : hfi (ptH h k) 214 5 = nI (nmX T q) := by rw [pt_f (by omega)]; exact h214
  by_cases cn : bN T q 0 1000 = true
  · simp only [cn, b2_t] at NM
    rw [if_pos cn] at kk
    by_cases ck : 50 ≤ k
    · rw [if_pos ck] at kk
      have K := kk _ (ER_fl r (by omega))
      simp (disch := omega) only [U_Re_readsPart (cm _), SA, SB, SC1, SC2, SG, SV, s, G, NM, FL, h4, ltI, show ¬ k < 50 by omega, eqI, Nat.one_ne_zero, nI_m1, true_or, or_true, true_implies, not_true_eq_false, not_false_eq_true, false_implies, true_and, and_true]
      exact K
    · rw [if_neg ck] at kk
      obtain ⟨m1, m2, m3⟩ := nm_of (by omega) cn
      obtain ⟨a1, a2⟩ := q_adv hq (bN_ty cn)
      have E := r_emits (d + 4 * n + 4) 0 om (tBe T q) (k + 1) cl 1 (nmX T q) (by omega) (by omega) (by omega) ra
      have K := kk (emF (avH (ptH h k) T q) cl 1 (nmX T q)) (cl + 1) (((RF_pt h k).trans (RF_av _ T q)).trans (RF_em _ cl 1 _)) (RS_em ra) (by rw [em_6, av_6, pt_g, up1_n _ _ (by omega)]) (by omega) (by omega) (fun i hi => by rw [em_c, up1_n _ _ (by omega)]; rfl) (by
        rw [em_c, ← m1]
        exact (xs_num (up1_s _ _ _) (by omega)).mono (by omega))
      simp (disch := omega) only [U_Re_readsPart (cm _), SA, SB, SC1, SC2, SG, SV, s, k4p, r0p, k5p, k4a, r0a, k5a, n5p, G, NM, pe, AP, E, h4, ltI, show k < 50 by omega, eqI, Nat.one_ne_zero, nI_add, nI_m1, m1_nI, true_or, or_true, true_implies, not_true_eq_false, not_false_eq_true, false_implies, true_and, and_true]
      exact K
  · have cn' := Bool.eq_false_iff.mpr cn
    simp only [cn', b2_f] at NM
    rw [if_neg cn] at kk
    by_cases cw : wAt T om q = 99
    · rw [if_pos (Or.inl cw)] at kk
      simp only [cw, if_true] at WA
      have K := kk _ (ER_fl r (by omega))
      simp (disch := omega) only [U_Re_readsPart (cm _), SA, SB, SC1, SC2, SG, SV, s, G, NM, WA, FL, h4, eqI, Nat.one_ne_zero, true_or, or_true, true_implies, not_true_eq_false, not_false_eq_true, false_implies, true_and, and_true]
      exact K
    · simp only [cw, if_false] at WA
      obtain ⟨u1, u2, u3, u4⟩ := wAt_ok hom cw
      by_cases ck : 50 ≤ k
      · rw [if_pos (Or.inr ck)] at kk
        have K := kk _ (ER_fl r (by omega))
        simp (disch := omega) only [U_Re_readsPart (cm _), SA, SB, SC1, SC2, SG, SV, s, G, NM, WA, FL, h4, ltI, show ¬ k < 50 by omega, eqI, Nat.one_ne_zero, nI_m1, true_or, or_true, true_implies, not_true_eq_false, not_false_eq_true, false_implies, true_and, and_true]
        exact K
      · rw [if_neg (not_or.mpr ⟨cw, ck⟩)] at kk
        obtain ⟨a1, a2⟩ := q_adv hq u2
        by_cases c9 : wAt T om q = 9 ∨ wAt T om q = 16
        · rw [if_pos c9] at kk
          have NA := x_hasNumber (d + 4 * n + 4) (tBe T q) 0 6 (by omega) (by omega) ra.2.1
          have FA := r_fails (d + 4 * n + 4) ra
          have n5a : hfi (avH (ptH h k) T q) 214 5 = nI (nmX T (tBe T q)) := ra.2.1.2.2.2.2.2.2.2
          by_cases cm6 : bN T (tBe T q) 0 6 = true
          · rw [if_pos cm6] at kk
            simp only [cm6, b2_t] at NA
            obtain ⟨m1, m2, m3⟩ := nm_of (by omega) cm6
            obtain ⟨b1, b2'⟩ := q_adv a2 (bN_ty cm6)
            have A2 := r_adv (d + 4 * n + 3) ra
            have raa := RS_av ra
            have k4b : hkd (avH (avH (ptH h k) T q) T (tBe T q)) 213 = 4 := s.1
            have E := r_emits (d + 4 * n + 4) 0 om (tBe T (tBe T q)) (k + 1) cl 2 (wAt T om q + nmX T (tBe T q)) (by omega) (by omega) (by omega) raa
            have K := kk (emF (avH (avH (ptH h k) T q) T (tBe T q)) cl 2 (wAt T om q + nmX T (tBe T q))) (cl + 1) ((((RF_pt h k).trans (RF_av _ T q)).trans (RF_av _ T (tBe T q))).trans (RF_em _ cl 2 _)) (RS_em raa) (by rw [em_6, av_6, av_6, pt_g, up1_n _ _ (by omega)]) (by omega) (by omega) (fun i hi => by rw [em_c, up1_n _ _ (by omega)]; rfl) (by
              rw [em_c, ← m1]
              exact (xs_word (up1_s _ _ _) ⟨by omega, fun z => by omega, fun z => by omega⟩).mono (by omega))
            rcases c9 with c9 | c9 <;> rw [c9] at WA E K <;> simp (disch := omega) only [U_Re_readsPart (cm _), SA, SB, SC1, SC2, SG, SV, s, k4p, r0p, k5p, k4a, r0a, k5a, k4b, n5a, G, NM, WA, NA, pe, AP, A2, E, h4, ltI, show k < 50 by omega, eqI, Nat.one_ne_zero, Nat.reduceEqDiff, nI_add, nI_m1, m1_nI, true_or, or_true, true_implies, not_true_eq_false, not_false_eq_true, false_implies, true_and, and_true] <;> exact K
          · rw [if_neg cm6] at kk
            simp only [Bool.eq_false_iff.mpr cm6, b2_f] at NA
            have K := kk _ ((ER_fl ra (by omega)).pre ((RF_pt h k).trans (RF_av _ T q)))
            rcases c9 with c9 | c9 <;> rw [c9] at WA <;> simp (disch := omega) only [U_Re_readsPart (cm _), SA, SB, SC1, SC2, SG, SV, s, k4p, r0p, k5p, k4a, r0a, k5a, G, NM, WA, NA, FA, pe, AP, h4, ltI, show k < 50 by omega, eqI, Nat.one_ne_zero, Nat.reduceEqDiff, nI_add, nI_m1, m1_nI, true_or, or_true, true_implies, not_true_eq_false, not_false_eq_true, false_implies, true_and, and_true] <;> exact K
        · rw [if_neg c9] at kk
          obtain ⟨c9a, c9b⟩ := not_or.mp c9
          have E := r_emits (d + 4 * n + 4) 0 om (tBe T q) (k + 1) cl 2 (wAt T om q) (by omega) (by omega) (by omega) ra
          have K := kk (emF (avH (ptH h k) T q) cl 2 (wAt T om q)) (cl + 1) (((RF_pt h k).trans (RF_av _ T q)).trans (RF_em _ cl 2 _)) (RS_em ra) (by rw [em_6, av_6, pt_g, up1_n _ _ (by omega)]) (by omega) (by omega) (fun i hi => by rw [em_c, up1_n _ _ (by omega)]; rfl) (by
            rw [em_c]
            exact (xs_word (up1_s _ _ _) ⟨u1, fun z => u3 z, fun z => by have := u4 z; omega⟩).mono (by omega))
          simp (disch := omega) only [U_Re_readsPart (cm _), SA, SB, SC1, SC2, SG, SV, s, k4p, r0p, k5p, k4a, r0a, k5a, G, NM, WA, pe, AP, E, h4, ltI, show k < 50 by omega, eqI, c9a, c9b, Nat.one_ne_zero, Nat.reduceEqDiff, nI_add, nI_m1, m1_nI, true_or, or_true, true_implies, not_true_eq_false, not_false_eq_true, false_implies, true_and, and_true]
          exact K
