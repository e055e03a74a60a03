/-! ===== router ===== -/
theorem PairQ {k x m : Nat} {args : List Value} (H : ∀ (d : Nat) (h : MH), GI h → ∃ v, (∀ Q, callD (d + k) x (.ref 24 :: args) h Q = Q (some v) h) ∧ ∀ Q, callD (d + k) m (.ref 273 :: args) h Q = Q (some v) (thH h)) : PairOp k x m args := fun d h g => by
  obtain ⟨v, h1, h2⟩ := H d h g
  rw [h1]
  refine ⟨v, rfl, ?_⟩
  rw [h2]
  exact ⟨rfl, Pst_e (GI_kp (KP_th h) g) (KP_th h).E⟩
def rtV (p : RW) (r w : Nat) : Int32 := if w = 7 then mNb p r else gR p r w
theorem x_router (d r w : Nat) (hr : r < 7) (hw : w ≤ 7) {h : MH} {p : RW} (s : XS h) (V : NeV h 26 p) (Q : RT) : callD (d + 2) 79 [.ref 24, .int (nI r), .int (nI w)] h Q = Q (some (.int (rtV p r w))) h := by
  have so := s.1
  unfold XSo at so
  have sw := WoS_25 s
  unfold WoS at sw
  simp only [Nat.reduceAdd] at sw
  obtain ⟨sh, -⟩ := (s.2.2.2.2.2.1.1).all
  simp only [Nat.reduceAdd] at sh
  obtain ⟨v1, v2, v3, v4, v5, v6, v7, v8, v9, v10, v11, v12, v13⟩ := V
  obtain ⟨-, -, -, va⟩ := v11
  obtain ⟨-, -, -, vw⟩ := v12
  have IR := fun h Q => xd_isRouter d (nI r) h Q
  have ir : b01 (isR (nI r)) = nI 1 := b01_t ⟨by rw [leI (by omega) (by omega)]; omega, by rw [leI (by omega) (by omega)]; omega⟩
  have EB := fun x h Q => e_bit d x r h Q
  have a3 := v3 r hr
  have a4 := v4 r hr
  have a5 := v5 r hr
  have a6 := v6 r hr
  have a7 := v7 r hr
  have a8 := v8 r hr
  have b3 := va r hr
  have b6 := vw r hr
  simp only [Nat.reduceAdd] at a3 a4 a5 a6 a7 a8
  rw [E_Di_router]
  rcases (show w = 0 ∨ w = 1 ∨ w = 2 ∨ w = 3 ∨ w = 4 ∨ w = 5 ∨ w = 6 ∨ w = 7 by omega) with rfl | rfl | rfl | rfl | rfl | rfl | rfl | rfl
  · unfold rtV
    simp (disch := omega) only [U_Di_router (cm _), SA, SB, SC1, SC2, SG, SK, SV, so, sw, sh, IR, ir, eqI, Nat.one_ne_zero, true_implies, not_true_eq_false, not_false_eq_true, false_implies, true_and, and_true]
    rw [tsw_hit 0 (by decide) (by decide)]
    simp (disch := omega) only [List.getD_cons_zero, List.getD_cons_succ, U_Di_router (cm _), SA, SB, SC1, SC2, SG, SK, SV, so, sw, sh, IR, ir, EB, a3, a4, a5, a6, a7, a8, b3, b6, eqI, nI_clamp, in_eq, Nat.reduceLeDiff, Nat.reduceEqDiff, Nat.one_ne_zero, if_true, if_false, true_implies, not_true_eq_false, not_false_eq_true, false_implies, true_and, and_true]
  · unfold rtV
    simp (disch := omega) only [U_Di_router (cm _), SA, SB, SC1, SC2, SG, SK, SV, so, sw, sh, IR, ir, eqI, Nat.one_ne_zero, true_implies, not_true_eq_false, not_false_eq_true, false_implies, true_and, and_true]
    rw [tsw_hit 1 (by decide) (by decide)]
    simp (disch := omega) only [List.getD_cons_zero, List.getD_cons_succ, U_Di_router (cm _), SA, SB, SC1, SC2, SG, SK, SV, so, sw, sh, IR, ir, EB, a3, a4, a5, a6, a7, a8, b3, b6, eqI, nI_clamp, in_eq, Nat.reduceLeDiff, Nat.reduceEqDiff, Nat.one_ne_zero, if_true, if_false, true_implies, not_true_eq_false, not_false_eq_true, false_implies, true_and, and_true]
  · unfold rtV
    simp (disch := omega) only [U_Di_router (cm _), SA, SB, SC1, SC2, SG, SK, SV, so, sw, sh, IR, ir, eqI, Nat.one_ne_zero, true_implies, not_true_eq_false, not_false_eq_true, false_implies, true_and, and_true]
    rw [tsw_hit 2 (by decide) (by decide)]
    simp (disch := omega) only [List.getD_cons_zero, List.getD_cons_succ, U_Di_router (cm _), SA, SB, SC1, SC2, SG, SK, SV, so, sw, sh, IR, ir, EB, a3, a4, a5, a6, a7, a8, b3, b6, eqI, nI_clamp, in_eq, Nat.reduceLeDiff, Nat.reduceEqDiff, Nat.one_ne_zero, if_true, if_false, true_implies, not_true_eq_false, not_false_eq_true, false_implies, true_and, and_true]
  · unfold rtV
    simp (disch := omega) only [U_Di_router (cm _), SA, SB, SC1, SC2, SG, SK, SV, so, sw, sh, IR, ir, eqI, Nat.one_ne_zero, true_implies, not_true_eq_false, not_false_eq_true, false_implies, true_and, and_true]
    rw [tsw_hit 3 (by decide) (by decide)]
    simp (disch := omega) only [List.getD_cons_zero, List.getD_cons_succ, U_Di_router (cm _), SA, SB, SC1, SC2, SG, SK, SV, so, sw, sh, IR, ir, EB, a3, a4, a5, a6, a7, a8, b3, b6, eqI, nI_clamp, in_eq, Nat.reduceLeDiff, Nat.reduceEqDiff, Nat.one_ne_zero, if_true, if_false, true_implies, not_true_eq_false, not_false_eq_true, false_implies, true_and, and_true]
  · unfold rtV
    simp (disch := omega) only [U_Di_router (cm _), SA, SB, SC1, SC2, SG, SK, SV, so, sw, sh, IR, ir, eqI, Nat.one_ne_zero, true_implies, not_true_eq_false, not_false_eq_true, false_implies, true_and, and_true]
    rw [tsw_hit 4 (by decide) (by decide)]
    simp (disch := omega) only [List.getD_cons_zero, List.getD_cons_succ, U_Di_router (cm _), SA, SB, SC1, SC2, SG, SK, SV, so, sw, sh, IR, ir, EB, a3, a4, a5, a6, a7, a8, b3, b6, eqI, nI_clamp, in_eq, Nat.reduceLeDiff, Nat.reduceEqDiff, Nat.one_ne_zero, if_true, if_false, true_implies, not_true_eq_false, not_false_eq_true, false_implies, true_and, and_true]
  · unfold rtV
    simp (disch := omega) only [U_Di_router (cm _), SA, SB, SC1, SC2, SG, SK, SV, so, sw, sh, IR, ir, eqI, Nat.one_ne_zero, true_implies, not_true_eq_false, not_false_eq_true, false_implies, true_and, and_true]
    rw [tsw_hit 5 (by decide) (by decide)]
    simp (disch := omega) only [List.getD_cons_zero, List.getD_cons_succ, U_Di_router (cm _), SA, SB, SC1, SC2, SG, SK, SV, so, sw, sh, IR, ir, EB, a3, a4, a5, a6, a7, a8, b3, b6, eqI, nI_clamp, in_eq, Nat.reduceLeDiff, Nat.reduceEqDiff, Nat.one_ne_zero, if_true, if_false, true_implies, not_true_eq_false, not_false_eq_true, false_implies, true_and, and_true]
  · unfold rtV
    simp (disch := omega) only [U_Di_router (cm _), SA, SB, SC1, SC2, SG, SK, SV, so, sw, sh, IR, ir, eqI, Nat.one_ne_zero, true_implies, not_true_eq_false, not_false_eq_true, false_implies, true_and, and_true]
    rw [tsw_hit 6 (by decide) (by decide)]
    simp (disch := omega) only [List.getD_cons_zero, List.getD_cons_succ, U_Di_router (cm _), SA, SB, SC1, SC2, SG, SK, SV, so, sw, sh, IR, ir, EB, a3, a4, a5, a6, a7, a8, b3, b6, eqI, nI_clamp, in_eq, Nat.reduceLeDiff, Nat.reduceEqDiff, Nat.one_ne_zero, if_true, if_false, true_implies, not_true_eq_false, not_false_eq_true, false_implies, true_and, and_true]
  · unfold rtV
    simp (disch := omega) only [U_Di_router (cm _), SA, SB, SC1, SC2, SG, SK, SV, so, sw, sh, IR, ir, eqI, Nat.one_ne_zero, true_implies, not_true_eq_false, not_false_eq_true, false_implies, true_and, and_true]
    rw [tsw_hit 7 (by decide) (by decide)]
    simp (disch := omega) only [List.getD_cons_zero, List.getD_cons_succ, U_Di_router (cm _), SA, SB, SC1, SC2, SG, SK, SV, so, sw, sh, IR, ir, EB, a3, a4, a5, a6, a7, a8, b3, b6, eqI, nI_clamp, in_eq, Nat.reduceLeDiff, Nat.reduceEqDiff, Nat.one_ne_zero, if_true, if_false, true_implies, not_true_eq_false, not_false_eq_true, false_implies, true_and, and_true]
theorem x_routerN (d : Nat) (r w : Int32) (hn : ¬ (rgI r 6 ∧ rgI w 7)) {h : MH} (s : XS h) (Q : RT) : callD (d + 2) 79 [.ref 24, .int r, .int w] h Q = Q (some (.int (-1))) h := by
  have so := s.1
  unfold XSo at so
  have sw := WoS_25 s
  unfold WoS at sw
  simp only [Nat.reduceAdd] at sw
  have IR := fun h Q => xd_isRouter d r h Q
  rw [E_Di_router]
  by_cases c1 : isR r
  · rw [b01_t c1] at IR
    have c2 : ¬ rgI w 7 := fun z => hn ⟨c1, z⟩
    simp (disch := omega) only [U_Di_router (cm _), SA, SB, SC1, SC2, SG, SK, SV, so, sw, IR, eqI, Nat.one_ne_zero, true_implies, not_true_eq_false, not_false_eq_true, false_implies, true_and, and_true]
    rw [tsw_miss (by
      rcases rg_no (by omega) c2 with z | ⟨z1, z2⟩
      · left
        rw [Int32.lt_iff_toInt_lt] at z; exact z
      · right
        rw [Int32.le_iff_toInt_le, nI_toInt (by omega)] at z2; exact z2)]
  · rw [b01_f c1] at IR
    simp (disch := omega) only [U_Di_router (cm _), SA, SB, SC1, SC2, SG, SK, SV, so, sw, IR, eqI, Nat.one_ne_zero, true_implies, not_true_eq_false, not_false_eq_true, false_implies, true_and, and_true]
theorem m_router (d r w : Nat) (hr : r < 7) (hw : w ≤ 7) {h : MH} (hM : MoS h) (Q : RT) : callD (d + 3) 151 [.ref 273, .int (nI r), .int (nI w)] h Q = Q (some (.int (rtV (hia h 275) r w))) (thH h) := by
  obtain ⟨hM2, ei2, -, kp⟩ := thM hM
  have k8 := hM.1
  generalize hh : thH h = h2 at *
  unfold thH at hh
  obtain ⟨k82, r2, r3, r4⟩ := hM2.row
  have IR := fun h Q => e_isRouter d (nI r) h Q
  rw [b01_t (show isR (nI r) from ⟨by rw [leI (by omega) (by omega)]; omega, by rw [leI (by omega) (by omega)]; omega⟩)] at IR
  have IN := fun h Q => e_in (d + 1) (nI w).toInt64 (lN 0) (lN 7) h Q
  rw [b01_t (show lN 0 ≤ (nI w).toInt64 ∧ (nI w).toInt64 ≤ lN 7 by rw [i2l_r _ 7 (by omega)]; exact ⟨by rw [leI (by omega) (by omega)]; omega, by rw [leI (by omega) (by omega)]; omega⟩)] at IN
  have NB := fun Q => e_neighbours d r hr hM2 Q
  have RA := fun h Q => e_routerAt (d + 1) r (by omega) h Q
  rw [E_Mo_router]
  by_cases c : w = 7
  · subst c
    unfold rtV
    rw [if_pos rfl, ← ei2]
    simp (disch := omega) only [U_Mo_router (cm _), SA, SB, SC1, SC2, SG, SK, SV, hh, k8, k82, IR, IN, NB, eqI, Nat.one_ne_zero, true_implies, not_true_eq_false, not_false_eq_true, false_implies, true_and, and_true]
  · unfold rtV
    rw [if_neg c, ← ei2]
    unfold gR
    simp (disch := omega) only [U_Mo_router (cm _), SA, SB, SC1, SC2, SG, SK, SV, hh, k8, k82, r2, r3, r4, IR, IN, RA, nI_add, nI_clamp, in_eq, Nat.reduceLeDiff, eqI, c, Nat.one_ne_zero, true_implies, not_true_eq_false, not_false_eq_true, false_implies, true_and, and_true]
theorem m_routerN (d : Nat) (r w : Int32) (hn : ¬ (rgI r 6 ∧ rgI w 7)) {h : MH} (hM : MoS h) (Q : RT) : callD (d + 3) 151 [.ref 273, .int r, .int w] h Q = Q (some (.int (-1))) (thH h) := by
  obtain ⟨hM2, ei2, -, kp⟩ := thM hM
  have k8 := hM.1
  generalize hh : thH h = h2 at *
  unfold thH at hh
  have IR := fun h Q => e_isRouter d r h Q
  have IN := fun h Q => e_in (d + 1) w.toInt64 (lN 0) (lN 7) h Q
  rw [E_Mo_router]
  by_cases c1 : isR r
  · rw [b01_t c1] at IR
    have c2 : ¬ rgI w 7 := fun z => hn ⟨c1, z⟩
    rw [b01_f (show ¬ (lN 0 ≤ w.toInt64 ∧ w.toInt64 ≤ lN 7) by rw [i2l_r _ 7 (by omega)]; exact c2)] at IN
    simp (disch := omega) only [U_Mo_router (cm _), SA, SB, SC1, SC2, SG, SK, SV, hh, k8, IR, IN, eqI, Nat.one_ne_zero, true_implies, not_true_eq_false, not_false_eq_true, false_implies, true_and, and_true]
  · rw [b01_f c1] at IR
    simp (disch := omega) only [U_Mo_router (cm _), SA, SB, SC1, SC2, SG, SK, SV, hh, k8, IR, eqI, Nat.one_ne_zero, true_implies, not_true_eq_false, not_false_eq_true, false_implies, true_and, and_true]
theorem op_router (r w : Int32) : PairOp 3 79 151 [.int r, .int w] := PairQ (fun d h g => by
  by_cases c : rgI r 6 ∧ rgI w 7
  · obtain ⟨r', hr, rfl⟩ := rg_n (by omega) c.1
    obtain ⟨w', hw, rfl⟩ := rg_n (by omega) c.2
    exact ⟨_, fun Q => x_router (d + 1) r' w' (by omega) hw g.1 g.2.2.2.1.1 Q, fun Q => m_router d r' w' (by omega) hw g.2.1.1 Q⟩
  · exact ⟨_, fun Q => x_routerN (d + 1) r w c g.1 Q, fun Q => m_routerN d r w c g.2.1.1 Q⟩)
