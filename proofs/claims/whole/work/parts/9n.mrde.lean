/-! ===== behindTest ===== -/
theorem bW_len {T : TP} {q k : Nat} (h : bW T q k = true) : tBe T q - tAt T q = (wds k).length := ((IsW_iff T q k).mp (bW_t.mp h)).2.1
theorem m_behindTest (d q : Nat) {h : MH} {T : TP} {om : Nat} {pl : PLt} {cf : CFt} {nc k op : Nat} (r : MR h T om q pl cf nc k op) (ho : inn pl ≠ 0 → 1 ≤ op) (ho8 : op ≤ 8) (hi : inn pl ≤ 32) (hn : nc + pl.length < q) (Q : RT) (K : StR h T om Q (sTest T q pl cf nc k op)) : callD (d + 6) 185 [.ref 273] h Q := by
  have WA := fun Q => m_isWord (d + 4) q 19 (by omega) r.1 Q
  have WO := fun Q => m_isWord (d + 4) q 18 (by omega) r.1 Q
  have S := fun Q => m_isSign (d + 4) q 41 (by omega) r.1 Q
  have I := fun Q => m_inner (d + 4) r.2.1 Q
  simp only [show ev (wds 19).reverse = 1476 by decide] at WA
  simp only [show ev (wds 18).reverse = 498 by decide] at WO
  have k8 := r.1.1.1
  have hq := r.1.2.2.1
  have h4 := r.1.2.1.1
  have tn := tBe_N T hq
  have ta := tAt_le T q
  unfold sTest at K
  rw [E_Mo_behindTest]
  by_cases cj : cjO T q = 0
  · rw [if_neg (fun z => z cj)] at K
    have ca : bW T q 19 = false := by
      cases c : bW T q 19 with
      | false => rfl
      | true => unfold cjO at cj; rw [if_pos c] at cj; cases cj
    have co : bW T q 18 = false := by
      cases c : bW T q 18 with
      | false => rfl
      | true => unfold cjO at cj; rw [if_neg (by rw [ca]; decide), if_pos c] at cj; cases cj
    rw [ca, b2_f] at WA
    rw [co, b2_f] at WO
    by_cases c0 : inn pl = 0
    · rw [if_pos c0] at K
      have ei : ivI (inn pl) = -1 := if_pos c0
      rw [ei] at I
      have Y := K h (MRF.refl h) r
      simp (disch := omega) only [U_Mo_behindTest (cm _), SA, SB, SC1, SC2, SG, SV, k8, WA, WO, I, eqI, true_implies, not_true_eq_false, not_false_eq_true, false_implies, true_and, and_true]
      exact Y
    · rw [if_neg c0] at K
      have ei : ivI (inn pl) = nI (inn pl) := if_neg c0
      rw [ei] at I
      have ni := nI_ne1 (n := inn pl) (by omega)
      cases cs : bG T q 41 with
      | true =>
        rw [if_pos cs] at K
        rw [cs, b2_t] at S
        have M1 := fun Q => m_must (d + 2) q true r.1 r.2.2.2.1 Q
        simp only [b2_t, if_true] at M1
        obtain ⟨N1, N2⟩ := MR_nx r
        have nk := N1.1.1.1
        have nb := N1.2.2.2.1
        simp (disch := omega) only [U_Mo_behindTest (cm _), SA, SB, SC1, SC2, SG, SV, k8, WA, WO, I, S, M1, ni, nk, nb, eqI, Nat.one_ne_zero, true_implies, not_true_eq_false, not_false_eq_true, false_implies, true_and, and_true]
        refine m_settle (d + 3) 1 (by omega) N1.2.1 _ (fun h' m s => ?_)
        have R2 := MR_x N1 m.X s
        obtain ⟨t1, t2⟩ := stl_inn (l := 1) (by omega) pl cf nc
        have o1 := ho c0
        generalize hst : stl 1 pl cf nc = st at *
        obtain ⟨p1, cf1, nc1⟩ := st
        cases p1 with
        | nil => exact absurd t1.symm c0
        | cons x p2 =>
          obtain ⟨R3, F3⟩ := MR_pop R2
          obtain ⟨R4, F4⟩ := MR_30 R3 (op - 1)
          have Y := K _ (((N2.trans m.F).trans F3).trans F4) R4
          have k8' := R2.1.1.1
          have p29 := R2.2.1.2.2.1
          have p30 := R2.2.2.2.2.2.2.1
          rw [List.length_cons] at p29
          simp only [hfi_s] at Y
          simp (disch := omega) only [U_Mo_behindTest (cm _), SA, SB, SC1, SC2, SG, SV, SK, k8', p29, p30, pk_sub, Nat.add_sub_cancel, up1_n, up1_s, true_implies, not_true_eq_false, not_false_eq_true, false_implies, true_and, and_true]
          simp (disch := omega) only [SK, SG, up1_s, up1_n] at Y
          exact Y
      | false =>
        rw [if_neg (by rw [cs]; decide)] at K
        rw [cs, b2_f] at S
        have M0 := fun Q => m_must (d + 2) q false r.1 r.2.2.2.1 Q
        simp only [b2_f, Bool.false_eq_true, if_false] at M0
        obtain ⟨B1, B2⟩ := MR_bd r
        have bk : hkd (bdH h) 273 = 8 := k8
        have bb : hfi (bdH h) 273 19 = nI 1 := B1.1
        have Y := K _ (nI 2) B2 B1
        generalize hh1 : bdH h = h1 at *
        simp (disch := omega) only [U_Mo_behindTest (cm _), SA, SB, SC1, SC2, SG, SV, k8, WA, WO, I, S, M0, ni, bk, bb, eqI, Nat.one_ne_zero, true_implies, not_true_eq_false, not_false_eq_true, false_implies, true_and, and_true]
        exact Y
  · rw [if_pos cj] at K
    cases ca : bW T q 19 with
    | true =>
      have e : cjO T q = 29 := by unfold cjO; rw [if_pos ca]
      have bl := bW_len ca
      rw [show (wds 19).length = 3 by decide] at bl
      rw [e, show bnd 29 = 2 by decide] at K
      rw [ca, b2_t] at WA
      simp (disch := omega) only [U_Mo_behindTest (cm _), SA, SB, SC1, SC2, SG, SV, k8, WA, eqI, Nat.one_ne_zero, true_implies, not_true_eq_false, not_false_eq_true, false_implies, true_and, and_true]
      refine m_settle (d + 3) 2 (by omega) r.2.1 _ (fun h' m s => ?_)
      have R2 := MR_x r m.X s
      have t2 := (stl_inn (l := 2) (by omega) pl cf nc).2
      generalize hst : stl 2 pl cf nc = st at *
      obtain ⟨p1, cf1, nc1⟩ := st
      have t2' : nc1 + p1.length ≤ nc + pl.length := t2
      obtain ⟨E1, E2, E3, E4⟩ := SR_pe s 29 (by omega) (by omega) (by show nc1 + p1.length + 1 < 400; omega)
      have R3 := MR_x R2 E2 E1
      obtain ⟨N1, N2⟩ := MR_nx R3
      have PM := fun Q => m_push (d + 4) p1.length (nI 29) (nI nc1) (by omega) s.1 s.2.2.1 Q
      have EM := fun Q => m_emit (d + 4) nc1 (nI 29) (nI 0) (by omega) E3 E4 Q
      have NM := fun Q => (m_next1 (d + 3) q R3.1 Q).1
      have Y := K _ ((m.F.trans E2.1).trans N2) N1
      have k8' := R2.1.1.1
      have s23 : hfi h' 273 23 = nI nc1 := s.2.1
      have k9 := E3.1
      have k10 := R3.1.1.1
      clear K N1 N2 E1 E2 E3 E4
      have PM' : ∀ Q, callD (d + 5) 173 [.ref 273, .int (nI 29), .int (nI nc1)] h' Q = Q none (mpH h' p1.length (nI 29) (nI nc1)) := PM
      have EM' : ∀ Q, callD (d + 5) 172 [.ref 273, .int (nI 29), .int (nI 0)] (mpH h' p1.length (nI 29) (nI nc1)) Q = Q none (meH (mpH h' p1.length (nI 29) (nI nc1)) nc1 (nI 29) (nI 0)) := EM
      simp (disch := omega) only [U_Mo_behindTest (cm _), SA, SB, SC1, SC2, SV, k8', s23, PM', k9, EM', k10, NM, eqI, Nat.one_ne_zero, true_implies, not_true_eq_false, not_false_eq_true, false_implies, true_and, and_true]
      exact Y
    | false =>
      have co : bW T q 18 = true := by
        cases c : bW T q 18 with
        | true => rfl
        | false => exact absurd (by unfold cjO; rw [if_neg (by rw [ca]; decide), if_neg (by rw [c]; decide)]) cj
      have e : cjO T q = 30 := by unfold cjO; rw [if_neg (by rw [ca]; decide), if_pos co]
      have bl := bW_len co
      rw [show (wds 18).length = 2 by decide] at bl
      rw [e, show bnd 30 = 1 by decide] at K
      rw [ca, b2_f] at WA
      rw [co, b2_t] at WO
      simp (disch := omega) only [U_Mo_behindTest (cm _), SA, SB, SC1, SC2, SG, SV, k8, WA, WO, eqI, Nat.one_ne_zero, true_implies, not_true_eq_false, not_false_eq_true, false_implies, true_and, and_true]
      refine m_settle (d + 3) 1 (by omega) r.2.1 _ (fun h' m s => ?_)
      have R2 := MR_x r m.X s
      have t2 := (stl_inn (l := 1) (by omega) pl cf nc).2
      generalize hst : stl 1 pl cf nc = st at *
      obtain ⟨p1, cf1, nc1⟩ := st
      have t2' : nc1 + p1.length ≤ nc + pl.length := t2
      obtain ⟨E1, E2, E3, E4⟩ := SR_pe s 30 (by omega) (by omega) (by show nc1 + p1.length + 1 < 400; omega)
      have R3 := MR_x R2 E2 E1
      obtain ⟨N1, N2⟩ := MR_nx R3
      have PM := fun Q => m_push (d + 4) p1.length (nI 30) (nI nc1) (by omega) s.1 s.2.2.1 Q
      have EM := fun Q => m_emit (d + 4) nc1 (nI 30) (nI 0) (by omega) E3 E4 Q
      have NM := fun Q => (m_next1 (d + 3) q R3.1 Q).1
      have Y := K _ ((m.F.trans E2.1).trans N2) N1
      have k8' := R2.1.1.1
      have s23 : hfi h' 273 23 = nI nc1 := s.2.1
      have k9 := E3.1
      have k10 := R3.1.1.1
      clear K N1 N2 E1 E2 E3 E4
      have PM' : ∀ Q, callD (d + 5) 173 [.ref 273, .int (nI 30), .int (nI nc1)] h' Q = Q none (mpH h' p1.length (nI 30) (nI nc1)) := PM
      have EM' : ∀ Q, callD (d + 5) 172 [.ref 273, .int (nI 30), .int (nI 0)] (mpH h' p1.length (nI 30) (nI nc1)) Q = Q none (meH (mpH h' p1.length (nI 30) (nI nc1)) nc1 (nI 30) (nI 0)) := EM
      simp (disch := omega) only [U_Mo_behindTest (cm _), SA, SB, SC1, SC2, SV, k8', s23, PM', k9, EM', k10, NM, eqI, Nat.one_ne_zero, true_implies, not_true_eq_false, not_false_eq_true, false_implies, true_and, and_true]
      exact Y
