/-! ===== quiet, then, compare: the pairs ===== -/
theorem lw_at {h : MH} {p : RW} (s : XS h) (lw : LwV h 36 p) (w4 : hfi h 25 4 = p 1) {x : Int32} {nl : Nat} (hl : p 1 = nI nl) (l6 : nl ≤ 6) (hx : isLw x nl) : ∃ Lo lv, POh h lv Lo ∧ FO (up1 p 2 x) Lo ∧ ∀ d Q, callD (d + 1) 75 [.ref 25, .int x] h Q = Q (some lv) h := by
  have sw := WoS_25 (s)
  unfold WoS at sw
  simp only [Nat.reduceAdd] at sw
  obtain ⟨nl', l1, l2, -, l4⟩ := lw
  have en : nl' = nl := by
    have := l2.symm.trans hl
    rw [eqI (by omega) (by omega)] at this
    exact this
  subst en
  have w4' := w4.trans hl
  rcases hx with rfl | ⟨f, hf, rfl⟩
  · refine ⟨none, .null, rfl, up1_s _ _ _, fun d Q => ?_⟩
    have z : (-1 : Int32) < nI 0 := by decide
    rw [E_Wo_lawAt]
    simp (disch := omega) only [U_Wo_lawAt (cm _), SA, SB, SC1, SC2, SG, SK, SV, z, true_or, or_true, true_implies, not_true_eq_false, not_false_eq_true, false_implies, true_and, and_true]
  · obtain ⟨a, L, y1, y2, y3, y4, y5⟩ := l4 f hf
    refine ⟨some L, .ref a, ⟨a, rfl, y2, y4⟩, ⟨f, up1_s _ _ _, TX_c (fun x hx => up1_n _ _ (by omega)) y5⟩, fun d Q => ?_⟩
    rw [E_Wo_lawAt]
    simp (disch := omega) only [U_Wo_lawAt (cm _), SA, SB, SC1, SC2, SG, SK, SV, sw, w4', y1, leI, ltI, Nat.not_lt_zero, show ¬ nl' ≤ f by omega, nI_clamp, in_eq, Nat.reduceLeDiff, true_or, or_true, true_implies, not_true_eq_false, not_false_eq_true, false_implies, true_and, and_true]
theorem up_force (p : RW) : up1 p 2 (p 2) = p := up1_id p 2
theorem op_quiet : PairOp 11 99 224 [] := PairR (fun d h g => by
  obtain ⟨V, iv, ⟨w4, w5, w6, w7, w8⟩, lw, -, ⟨md, m1, m2⟩, -⟩ := g.2.2.2.1
  obtain ⟨nl, l1, l2, l3, l4⟩ := id lw
  obtain ⟨Lo, lv, P, fo, LA⟩ := lw_at g.1 lw w4 l2 l1 l3
  have LA' := fun Q => LA (d + 9) Q
  have so := (g.1).1
  unfold XSo at so
  have sw := WoS_25 (g.1)
  unfold WoS at sw
  simp only [Nat.reduceAdd] at sw
  refine ⟨.int (qtI (qtR Lo 999 0 (up1 (hia h 275) 2 (hia h 275 2)))), fun Q K => ?_, fun h1 kp g1 Q K => ?_⟩
  · rw [E_Di_quiet]
    rcases P.v with rfl | ⟨a, rfl⟩
    all_goals
      simp (disch := omega) only [U_Di_quiet (cm _), SA, SB, SC1, SC2, SG, SK, SV, so, sw, w5, LA', true_or, or_true, true_implies, not_true_eq_false, not_false_eq_true, false_implies, true_and, and_true]
      refine x_stq (q := up1 (hia h 275) 2 (hia h 275 2)) (d + 3) md m1 g.1 P (w8.trans m2) V iv (fun j h1 _ => up1_n _ _ (by omega)) ((up1_n _ _ (by omega)).trans m2) _ (fun H' kp _ => ?_)
      simp only [U_Di_quiet (cm _), SA, SB, SG, SV]
      exact K H' kp
  · have e1 : hia h1 275 = hia h 275 := kp.2.2.2.2.1 275 (scr_n (by omega))
    obtain ⟨hM2, ei2, ef2, kp2⟩ := thM g1.2.1.1
    have k8 := g1.2.1.1.1
    have h20 : hfi (thH h1) 273 20 = nI 0 := (ef2 20 (by omega)).trans g1.2.2.2.2.2.2.1.2.2.2.2.2
    generalize hh : thH h1 = h2 at *
    unfold thH at hh
    obtain ⟨k82, r2, r3, r4⟩ := hM2.row
    have e2 : hia h2 275 = hia h 275 := by rw [ei2, e1]
    have x2 : hia h2 275 2 = hia h 275 2 := by rw [e2]
    rw [E_Mo_quiet]
    simp (disch := omega) only [U_Mo_quiet (cm _), SA, SB, SC1, SC2, SG, SK, SV, hh, k8, k82, r2, r3, r4, x2, nI_clamp, in_eq, Nat.reduceLeDiff, true_or, or_true, true_implies, not_true_eq_false, not_false_eq_true, false_implies, true_and, and_true]
    refine m_quietBy d (hia h 275 2) hM2 e2 h20 iv ⟨md, m1, m2⟩ fo _ (fun h3 kr _ => ?_)
    simp only [U_Mo_quiet (cm _), SA, SB, SG, SV]
    exact K h3 (kp2.R.trans kr))
theorem op_compare (x : Int32) : PairOp 11 106 226 [.int x] := PairR (fun d h g => by
  obtain ⟨V, iv, ⟨w4, w5, w6, w7, w8⟩, lw, -, ⟨md, m1, m2⟩, -⟩ := g.2.2.2.1
  obtain ⟨nl, l1, l2, l3, l4⟩ := id lw
  have IX := fun Q => x_isLaw (d + 9) x l1 g.1 (w4.trans l2) Q
  have so := (g.1).1
  unfold XSo at so
  have sw := WoS_25 (g.1)
  unfold WoS at sw
  simp only [Nat.reduceAdd] at sw
  by_cases c : isLw x nl
  · obtain ⟨Lo, lv, P, fo, LA⟩ := lw_at g.1 lw w4 l2 l1 c
    have LA' := fun Q => LA (d + 9) Q
    rw [b01_t c] at IX
    refine ⟨.int (qtI (qtR Lo 999 0 (up1 (hia h 275) 2 x))), fun Q K => ?_, fun h1 kp g1 Q K => ?_⟩
    · rw [E_Di_compare]
      rcases P.v with rfl | ⟨a, rfl⟩
      all_goals
        simp (disch := omega) only [U_Di_compare (cm _), SA, SB, SC1, SC2, SG, SK, SV, so, sw, IX, LA', eqI, Nat.one_ne_zero, true_or, or_true, true_implies, not_true_eq_false, not_false_eq_true, false_implies, true_and, and_true]
        refine x_stq (q := up1 (hia h 275) 2 x) (d + 3) md m1 g.1 P (w8.trans m2) V iv (fun j h1 _ => up1_n _ _ (by omega)) ((up1_n _ _ (by omega)).trans m2) _ (fun H' kp _ => ?_)
        simp only [U_Di_compare (cm _), SA, SB, SG, SV]
        exact K H' kp
    · have e1 : hia h1 275 = hia h 275 := kp.2.2.2.2.1 275 (scr_n (by omega))
      obtain ⟨hM2, ei2, ef2, kp2⟩ := thM g1.2.1.1
      have k8 := g1.2.1.1.1
      have h20 : hfi (thH h1) 273 20 = nI 0 := (ef2 20 (by omega)).trans g1.2.2.2.2.2.2.1.2.2.2.2.2
      generalize hh : thH h1 = h2 at *
      unfold thH at hh
      have k82 := hM2.1
      have e2 : hia h2 275 = hia h 275 := by rw [ei2, e1]
      have IM := fun Q => m_isLaw (d + 8) x l1 hM2 (by rw [e2]; exact l2) Q
      rw [b01_t c] at IM
      rw [E_Mo_compare]
      simp (disch := omega) only [U_Mo_compare (cm _), SA, SB, SC1, SC2, SG, SK, SV, hh, k8, k82, IM, eqI, Nat.one_ne_zero, true_or, or_true, true_implies, not_true_eq_false, not_false_eq_true, false_implies, true_and, and_true]
      refine m_quietBy d x hM2 e2 h20 iv ⟨md, m1, m2⟩ fo _ (fun h3 kr _ => ?_)
      simp only [U_Mo_compare (cm _), SA, SB, SG, SV]
      exact K h3 (kp2.R.trans kr)
  · rw [b01_f c] at IX
    refine ⟨.int (-1), fun Q K => ?_, fun h1 kp g1 Q K => ?_⟩
    · have Y := K h (KP.refl h)
      rw [E_Di_compare]
      simp (disch := omega) only [U_Di_compare (cm _), SA, SB, SC1, SC2, SG, SK, SV, so, IX, eqI, true_or, or_true, true_implies, not_true_eq_false, not_false_eq_true, false_implies, true_and, and_true]
      exact Y
    · have e1 : hia h1 275 = hia h 275 := kp.2.2.2.2.1 275 (scr_n (by omega))
      obtain ⟨hM2, ei2, ef2, kp2⟩ := thM g1.2.1.1
      have k8 := g1.2.1.1.1
      have Y := K _ kp2.R
      generalize hh : thH h1 = h2 at *
      unfold thH at hh
      have k82 := hM2.1
      have IM := fun Q => m_isLaw (d + 8) x l1 hM2 (by rw [ei2, e1]; exact l2) Q
      rw [b01_f c] at IM
      rw [E_Mo_compare]
      simp (disch := omega) only [U_Mo_compare (cm _), SA, SB, SC1, SC2, SG, SK, SV, hh, k8, k82, IM, eqI, true_or, or_true, true_implies, not_true_eq_false, not_false_eq_true, false_implies, true_and, and_true]
      exact Y)
theorem op_then (r : Int32) : PairOp 11 100 225 [.int r] := PairR (fun d h g => by
  obtain ⟨V, iv, ⟨w4, w5, w6, w7, w8⟩, lw, -, ⟨md, m1, m2⟩, -⟩ := g.2.2.2.1
  obtain ⟨nl, l1, l2, l3, l4⟩ := id lw
  obtain ⟨Lo, lv, P, fo, LA⟩ := lw_at g.1 lw w4 l2 l1 l3
  have LA' := fun Q => LA (d + 9) Q
  have IX := fun h Q => xd_isRouter (d + 9) r h Q
  have IM := fun h Q => e_isRouter (d + 8) r h Q
  have so := (g.1).1
  unfold XSo at so
  have sw := WoS_25 (g.1)
  unfold WoS at sw
  simp only [Nat.reduceAdd] at sw
  by_cases c : isR r
  · obtain ⟨r', hr, rfl⟩ := rg_n (by omega) c
    rw [b01_t c] at IX IM
    have le := fun x hx => qtR_le Lo 999 0 (up1 (hia h 275) 2 (hia h 275 2)) x hx
    refine ⟨.int (thV (qtR Lo 999 0 (up1 (hia h 275) 2 (hia h 275 2))) r'), fun Q K => ?_, fun h1 kp g1 Q K => ?_⟩
    · rw [E_Di_then]
      rcases P.v with rfl | ⟨a, rfl⟩
      all_goals
        simp (disch := omega) only [U_Di_then (cm _), SA, SB, SC1, SC2, SG, SK, SV, so, sw, w5, IX, LA', eqI, Nat.one_ne_zero, true_or, or_true, true_implies, not_true_eq_false, not_false_eq_true, false_implies, true_and, and_true]
        refine x_stq (q := up1 (hia h 275) 2 (hia h 275 2)) (d + 3) md m1 g.1 P (w8.trans m2) V iv (fun j h1 _ => up1_n _ _ (by omega)) ((up1_n _ _ (by omega)).trans m2) _ (fun H' kp nv => ?_)
        generalize qtR Lo 999 0 (up1 (hia h 275) 2 (hia h 275 2)) = R at *
        have Y := K H' kp
        cases R with
        | none =>
          have i1 : qtI none = -1 := rfl
          have i2 : thV none r' = -1 := rfl
          rw [i2] at Y
          rw [i1]
          simp (disch := omega) only [U_Di_then (cm _), SA, SB, SC1, SC2, SG, SK, SV, true_or, or_true, true_implies, not_true_eq_false, not_false_eq_true, false_implies, true_and, and_true]
          exact Y
        | some x =>
          have i1 : qtI (some x) = nI x.1 := rfl
          have i2 : thV (some x) r' = gR x.2 r' 0 := rfl
          have zx := nI_m1 (n := x.1) (by have := le x rfl; omega)
          have s2 := XS_e kp.1.2.2.2 g.1
          have so2 := s2.1
          unfold XSo at so2
          obtain ⟨sh2, -⟩ := s2.2.2.2.2.2.1.2.1.all
          simp only [Nat.reduceAdd] at sh2
          have a4 := (nv x rfl).2.2.2.1 r' (by omega)
          simp only [Nat.reduceAdd] at a4
          rw [i2] at Y
          rw [i1]
          simp (disch := omega) only [U_Di_then (cm _), SA, SB, SC1, SC2, SG, SK, SV, so2, sh2, a4, zx, nI_clamp, in_eq, Nat.reduceLeDiff, true_or, or_true, true_implies, not_true_eq_false, not_false_eq_true, false_implies, true_and, and_true]
          exact Y
    · have e1 : hia h1 275 = hia h 275 := kp.2.2.2.2.1 275 (scr_n (by omega))
      obtain ⟨hM2, ei2, ef2, kp2⟩ := thM g1.2.1.1
      have k8 := g1.2.1.1.1
      have h20 : hfi (thH h1) 273 20 = nI 0 := (ef2 20 (by omega)).trans g1.2.2.2.2.2.2.1.2.2.2.2.2
      generalize hh : thH h1 = h2 at *
      unfold thH at hh
      obtain ⟨k82, r2, r3, r4⟩ := hM2.row
      have e2 : hia h2 275 = hia h 275 := by rw [ei2, e1]
      have x2 : hia h2 275 2 = hia h 275 2 := by rw [e2]
      rw [E_Mo_then]
      simp (disch := omega) only [U_Mo_then (cm _), SA, SB, SC1, SC2, SG, SK, SV, hh, k8, k82, r2, r3, r4, x2, IM, eqI, Nat.one_ne_zero, nI_clamp, in_eq, Nat.reduceLeDiff, true_or, or_true, true_implies, not_true_eq_false, not_false_eq_true, false_implies, true_and, and_true]
      refine m_quietBy d (hia h 275 2) hM2 e2 h20 iv ⟨md, m1, m2⟩ fo _ (fun h3 kr ht => ?_)
      have M3 := kr.1.2.2.2.M hM2
      have k83 := M3.1
      obtain ⟨s1, s2, s3⟩ := M3.a295
      have tj := ht r' (by omega)
      have Y := K h3 (kp2.R.trans kr)
      simp (disch := omega) only [U_Mo_then (cm _), SA, SB, SC1, SC2, SG, SK, SV, k83, s1, s2, s3, tj, nI_clamp, in_eq, Nat.reduceLeDiff, true_or, or_true, true_implies, not_true_eq_false, not_false_eq_true, false_implies, true_and, and_true]
      exact Y
  · rw [b01_f c] at IX IM
    refine ⟨.int (-1), fun Q K => ?_, fun h1 kp g1 Q K => ?_⟩
    · have Y := K h (KP.refl h)
      rw [E_Di_then]
      simp (disch := omega) only [U_Di_then (cm _), SA, SB, SC1, SC2, SG, SK, SV, IX, eqI, true_or, or_true, true_implies, not_true_eq_false, not_false_eq_true, false_implies, true_and, and_true]
      exact Y
    · obtain ⟨hM2, ei2, ef2, kp2⟩ := thM g1.2.1.1
      have k8 := g1.2.1.1.1
      have Y := K _ kp2.R
      generalize hh : thH h1 = h2 at *
      unfold thH at hh
      rw [E_Mo_then]
      simp (disch := omega) only [U_Mo_then (cm _), SA, SB, SC1, SC2, SG, SK, SV, hh, k8, IM, eqI, true_or, or_true, true_implies, not_true_eq_false, not_false_eq_true, false_implies, true_and, and_true]
      exact Y)
