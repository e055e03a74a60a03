/-! ===== readPlain and behindTest ===== -/
theorem StR_t {h h1 : MH} {T : TP} {om : Nat} {Q : RT} {e : Except Nat MSx} (f : MRF h h1) (K : StR h T om Q e) : StR h1 T om Q e := by
  cases e with
  | ok st => exact fun h' m r => K h' (f.trans m) r
  | error x => exact fun h' v m r => K h' v (f.trans m) r
theorem m_readPlain (d q : Nat) {h : MH} {T : TP} {om : Nat} (hom : om = 0 ∨ om = 1) {pl : PLt} {cf : CFt} {nc k op : Nat} (r : MR h T om q pl cf nc k op) (hk : k ≤ 50) (ho : op ≤ 8) (hn : nc + pl.length < q) (Q : RT) (K : StR h T om Q (sPlain T om q pl cf nc k op)) : callD (d + 6) 183 [.ref 273] h Q := by
  have W := fun Q => m_isWord (d + 4) q 7 (by omega) r.1 Q
  have S := fun Q => m_isSign (d + 4) q 40 (by omega) r.1 Q
  simp only [show ev (wds 7).reverse = 14836 by decide] at W
  have k8 := r.1.1.1
  have hq := r.1.2.2.1
  have h4 := r.1.2.1.1
  unfold sPlain at K
  rw [E_Mo_readPlain]
  cases c : bW T q 7 with
  | true =>
    rw [if_pos c] at K
    rw [c, b2_t] at W
    obtain ⟨E1, E2⟩ := SR_push r.2.1 28 0 (by omega) (by omega) (by omega) (fun z => by omega) (by omega)
    have R1 := MR_x r E2 E1
    obtain ⟨N1, N2⟩ := MR_nx R1
    have PM := fun Q => m_push (d + 4) pl.length (nI 28) (nI 0) (by omega) r.2.1.1 r.2.1.2.2.1 Q
    have NM := fun Q => (m_next1 (d + 3) q R1.1 Q).1
    have Y := K _ (E2.1.trans N2) N1
    have pk8 := R1.1.1.1
    generalize hh1 : mpH h pl.length (nI 28) (nI 0) = h1 at *
    simp (disch := omega) only [U_Mo_readPlain (cm _), SA, SB, SC1, SC2, SG, SV, k8, pk8, W, PM, NM, eqI, Nat.one_ne_zero, true_implies, not_true_eq_false, not_false_eq_true, false_implies, true_and, and_true]
    exact Y
  | false =>
    rw [if_neg (by rw [c]; decide)] at K
    rw [c, b2_f] at W
    cases c2 : bG T q 40 with
    | true =>
      rw [if_pos c2] at K
      rw [c2, b2_t] at S
      simp (disch := omega) only [U_Mo_readPlain (cm _), SA, SB, SC1, SC2, SG, SV, k8, W, S, eqI, Nat.one_ne_zero, true_implies, not_true_eq_false, not_false_eq_true, false_implies, true_and, and_true]
      refine m_openBracket (d + 1) q 31 (by omega) (by omega) r ho (by omega) _ (fun c8 h' f m => ?_) (fun c8 h' f m => ?_)
      · rw [if_pos c8] at K
        simp (disch := omega) only [U_Mo_readPlain (cm _), SA, SB, SC1, SC2, SG, SV]
        exact K h' f m
      · rw [if_neg (by omega)] at K
        simp (disch := omega) only [U_Mo_readPlain (cm _), SA, SB, SC1, SC2, SG, SV]
        exact K h' _ f m
    | false =>
      rw [if_neg (by rw [c2]; decide)] at K
      rw [c2, b2_f] at S
      simp (disch := omega) only [U_Mo_readPlain (cm _), SA, SB, SC1, SC2, SG, SV, k8, W, S, eqI, Nat.one_ne_zero, true_implies, not_true_eq_false, not_false_eq_true, false_implies, true_and, and_true]
      refine m_readPart d q hom r hk ho (by omega) (by omega) _ ?_
      revert K
      generalize sPart T om q pl cf nc k op = e
      intro K
      cases e with
      | ok st =>
        intro h' f m
        simp (disch := omega) only [U_Mo_readPlain (cm _), SA, SB, SC1, SC2, SG, SV]
        exact K h' f m
      | error x =>
        intro h' v f m
        simp (disch := omega) only [U_Mo_readPlain (cm _), SA, SB, SC1, SC2, SG, SV]
        exact K h' v f m
