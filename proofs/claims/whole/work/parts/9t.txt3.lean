/-! ===== the program reads a test, a clause ===== -/
def TsK (h : MH) (T : TP) (om q cl b : Nat) (Q : RT) : Except Nat (Option VAL × Nat × Nat) → Prop
  | .error f => ∀ h', EG h h' f → Q (some (.int (nI 0))) h'
  | .ok (t, q', k') => ∀ h' cl', RG h h' → RS h' T om q' k' cl' → hfi h' 213 6 = hfi h 213 6 → cl ≤ cl' → cl' + q ≤ cl + q' → (∀ j, j < cl → hia h' 216 j = hia h 216 j) → (∀ x, x ≠ b + 2 → hia h' 217 x = hia h 217 x) → (match t with
    | none => hia h' 217 (b + 2) = hia h 217 (b + 2)
    | some v => TestV v ∧ ∃ t, t ≤ 448 ∧ hia h' 217 (b + 2) = nI t ∧ XEc (hia h' 216) cl' om t v) → Q (some (.int (nI 1))) h'
theorem x_rtest (d b q k cl : Nat) {T : TP} {om : Nat} (hom : om ≤ 1) (hb : b ≤ 66) (hk : k ≤ 50) {h : MH} (r : RS h T om q k cl) (hc : cl + T.2 < 448 + q + 1) (Q : RT) (K : TsK h T om q cl b Q (pTs T om q k)) : callD (d + 165) 55 [.ref 213, .int (nI b)] h Q := by
  have s := r.1
  unfold XSr at s
  have hq := r.2.1.2.2.1
  have W := fun Q => x_hasWord (d + 163) q 21 (by omega) r.2.1 Q
  unfold pTs at K
  rw [E_Re_readsTest]
  cases c : bW T q 21 with
  | false =>
    rw [c, b2_f] at W
    rw [if_neg (by rw [c]; decide)] at K
    have Y := K h cl (RG.refl h) r rfl (Nat.le_refl _) (by omega) (fun _ _ => rfl) (fun _ _ => rfl) rfl
    simp (disch := omega) only [U_Re_readsTest (cm _), SA, SB, SC1, SC2, SG, SV, s, W, eqI, Nat.one_ne_zero, true_or, or_true, true_implies, not_true_eq_false, not_false_eq_true, false_implies, true_and, and_true]
    exact Y
  | true =>
    rw [c, b2_t] at W
    rw [if_pos c] at K
    obtain ⟨a1, a2⟩ := bW_adv hq (by omega) c
    have AV := fun Q => r_adv (d + 162) r Q
    have R1 := RS_av r
    have e3 : hfi (avH h T q) 213 3 = nI cl := R1.2.2.1
    have s1 := R1.1
    unfold XSr at s1
    have g7 : hia (avH h T q) 217 = hia h 217 := rfl
    have R2 := RS_c R1 (up1 (hia h 217) (b + 2) (nI cl))
    have F2 : RG h (sIA (avH h T q) 217 (up1 (hia h 217) (b + 2) (nI cl))) := (RF_av h T q).G.trans (RG_c _ _)
    have g6 : hia (sIA (avH h T q) 217 (up1 (hia h 217) (b + 2) (nI cl))) 216 = hia h 216 := by rw [hia_n _ _ (by omega)]; rfl
    have g77 : hia (sIA (avH h T q) 217 (up1 (hia h 217) (b + 2) (nI cl))) 217 = up1 (hia h 217) (b + 2) (nI cl) := hia_s _ _ _
    have gf : hfi (sIA (avH h T q) 217 (up1 (hia h 217) (b + 2) (nI cl))) 213 6 = hfi h 213 6 := by show hfi (avH h T q) 213 6 = _; rw [av_6]
    generalize avH h T q = h1 at *
    have CH : ∀ Q, XOK (sIA h1 217 (up1 (hia h 217) (b + 2) (nI cl))) T om (tBe T q) cl (dD 0 0) (pCh T om 40 0 0 (tBe T q) k) Q → callD (d + 164) 56 [.ref 213, .int (nI 0), .int (nI 0)] (sIA h1 217 (up1 (hia h 217) (b + 2) (nI cl))) Q := fun Q kk => by
      have := x_chain hom 40 d 0 0 (tBe T q) k cl (sIA h1 217 (up1 (hia h 217) (b + 2) (nI cl))) Q (by omega) (by omega) (by omega) hk R2 (by omega) kk
      rw [show d + 4 * 40 + 4 = d + 164 by omega] at this
      exact this
    simp (disch := omega) only [U_Re_readsTest (cm _), SA, SB, SC1, SC2, SG, SV, SM, s, s1, W, AV, e3, g7, nI_add, nI_clamp, in_eq, eqI, Nat.one_ne_zero, Nat.reduceLeDiff, true_or, or_true, true_implies, not_true_eq_false, not_false_eq_true, false_implies, true_and, and_true]
    refine CH _ ?_
    clear CH AV W
    generalize sIA h1 217 (up1 (hia h 217) (b + 2) (nI cl)) = h2 at *
    unfold XOK
    cases hp : pCh T om 40 0 0 (tBe T q) k with
    | error f =>
      rw [hp] at K
      intro h' e
      have s' := XSr_e e.1.1.2.2.2.1 R2.1
      unfold XSr at s'
      simp (disch := omega) only [U_Re_readsTest (cm _), SA, SB, SC1, SC2, SG, SV, s', eqI, Nat.one_ne_zero, true_or, or_true, true_implies, not_true_eq_false, not_false_eq_true, false_implies, true_and, and_true]
      refine r_emitsE (d + 163) 0 0 f (by omega) (by omega) R2.1 e _ (fun h3 e3 => ?_)
      simp (disch := omega) only [U_Re_readsTest (cm _), SA, SB, SC1, SC2, SG, SV, true_or, or_true, true_implies, true_and]
      exact K h3 ⟨F2.trans e3.1.G, e3.2.1⟩
    | ok w =>
      obtain ⟨v, q2, k2⟩ := w
      rw [hp] at K
      intro h' cl' f' r' e6 c1 c2 kc sg
      have hq2 := r'.2.1.2.2.1
      have R3 := RS_em (o := 0) (a := 0) r'
      have s' := r'.1
      unfold XSr at s'
      have EM := fun Q => r_emits (d + 163) 0 om q2 k2 cl' 0 0 (by omega) (by omega) (by omega) r' Q
      have q7 : hia (emF h' cl' 0 0) 217 = up1 (hia h 217) (b + 2) (nI cl) := by rw [(RF_em h' cl' 0 0).2.2.2.2 217 (by omega), f'.2.2.2.2 217 (by omega), g77]
      have tv := TLev_all T om 40 0 0 (tBe T q) k v q2 k2 (by omega) hp
      have Y := K (emF h' cl' 0 0) (cl' + 1) (F2.trans (f'.G.trans (RF_em h' cl' 0 0).G)) R3 ((em_6.trans e6).trans gf) (by omega) (by omega) (fun j hj => by rw [em_c, up1_n _ _ (by omega), kc j hj, g6]) (fun x hx => by rw [q7, up1_n _ _ hx]) ⟨tv, cl, by omega, by rw [q7, up1_s], cl', dD 0 0, by decide, sg.of (fun j _ h2 => by rw [em_c, up1_n _ _ (by omega)]), by omega, by rw [em_c, up1_s]⟩
      generalize emF h' cl' 0 0 = h2 at *
      simp (disch := omega) only [U_Re_readsTest (cm _), SA, SB, SC1, SC2, SG, SV, SM, s', EM, nI_add, nI_clamp, eqI, Nat.one_ne_zero, true_or, or_true, true_implies, not_true_eq_false, not_false_eq_true, false_implies, true_and, and_true]
      exact Y
theorem x_kindAt (d q k cl : Nat) {T : TP} {om : Nat} (hom : om ≤ 1) {h : MH} (r : RS h T om q k cl) (Q : RT) : callD (d + 2) 52 [.ref 213] h Q = Q (some (.int (if hdA T om q = 99 then -1 else nI (kdX om (hdA T om q))))) h := by
  have s := r.1
  unfold XSr at s
  have e5 : hfi h 213 5 = nI om := r.2.2.2.2
  rw [E_Re_kindAt]
  have W0 := fun Q => x_hasWord d q 0 (by omega) r.2.1 Q
  have W1 := fun Q => x_hasWord d q 1 (by omega) r.2.1 Q
  have W2 := fun Q => x_hasWord d q 2 (by omega) r.2.1 Q
  have W3 := fun Q => x_hasWord d q 3 (by omega) r.2.1 Q
  have W4 := fun Q => x_hasWord d q 4 (by omega) r.2.1 Q
  unfold hdA kdX
  rcases (show om = 0 ∨ om = 1 by omega) with rfl | rfl
  · simp only [if_true]
    cases c3 : bW T q 3 with
    | true =>
      rw [c3, b2_t] at W3
      simp (disch := omega) only [U_Re_kindAt (cm _), SA, SB, SC1, SC2, SG, SV, s, e5, W3, eqI, if_true, if_false, Nat.reduceEqDiff, Nat.zero_add, Nat.one_ne_zero, Bool.false_eq_true, true_or, or_true, true_implies, not_true_eq_false, not_false_eq_true, false_implies, true_and, and_true]
    | false =>
      rw [c3, b2_f] at W3
      cases c4 : bW T q 4 with
      | true =>
        rw [c4, b2_t] at W4
        simp (disch := omega) only [U_Re_kindAt (cm _), SA, SB, SC1, SC2, SG, SV, s, e5, W3, W4, eqI, if_true, if_false, Nat.reduceEqDiff, Nat.reduceAdd, Nat.one_ne_zero, Bool.false_eq_true, true_or, or_true, true_implies, not_true_eq_false, not_false_eq_true, false_implies, true_and, and_true]
      | false =>
        rw [c4, b2_f] at W4
        simp (disch := omega) only [U_Re_kindAt (cm _), SA, SB, SC1, SC2, SG, SV, s, e5, W3, W4, eqI, if_true, if_false, Nat.reduceEqDiff, Nat.one_ne_zero, Bool.false_eq_true, true_or, or_true, true_implies, not_true_eq_false, not_false_eq_true, false_implies, true_and, and_true]
  · simp only [Nat.one_ne_zero, if_false]
    cases c0 : bW T q 0 with
    | true =>
      rw [c0, b2_t] at W0
      simp (disch := omega) only [U_Re_kindAt (cm _), SA, SB, SC1, SC2, SG, SV, s, e5, W0, eqI, if_true, if_false, Nat.reduceEqDiff, Nat.one_ne_zero, Bool.false_eq_true, true_or, or_true, true_implies, not_true_eq_false, not_false_eq_true, false_implies, true_and, and_true]
    | false =>
      rw [c0, b2_f] at W0
      cases c1 : bW T q 1 with
      | true =>
        rw [c1, b2_t] at W1
        simp (disch := omega) only [U_Re_kindAt (cm _), SA, SB, SC1, SC2, SG, SV, s, e5, W0, W1, eqI, if_true, if_false, Nat.reduceEqDiff, Nat.one_ne_zero, Bool.false_eq_true, true_or, or_true, true_implies, not_true_eq_false, not_false_eq_true, false_implies, true_and, and_true]
      | false =>
        rw [c1, b2_f] at W1
        cases c2 : bW T q 2 with
        | true =>
          rw [c2, b2_t] at W2
          simp (disch := omega) only [U_Re_kindAt (cm _), SA, SB, SC1, SC2, SG, SV, s, e5, W0, W1, W2, eqI, if_true, if_false, Nat.reduceEqDiff, Nat.one_ne_zero, Bool.false_eq_true, true_or, or_true, true_implies, not_true_eq_false, not_false_eq_true, false_implies, true_and, and_true]
        | false =>
          rw [c2, b2_f] at W2
          simp (disch := omega) only [U_Re_kindAt (cm _), SA, SB, SC1, SC2, SG, SV, s, e5, W0, W1, W2, eqI, if_true, if_false, Nat.reduceEqDiff, Nat.one_ne_zero, Bool.false_eq_true, true_or, or_true, true_implies, not_true_eq_false, not_false_eq_true, false_implies, true_and, and_true]
