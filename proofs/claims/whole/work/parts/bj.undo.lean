/-! ===== undo ===== -/
theorem x_takesBack (d nx n : Nat) (hnx : nx < 17) (hn : 1 ≤ n ∧ n ≤ 16) {h : MH} {p : RW} (s : XS h) (h2 : hfi h 40 2 = nI nx) (h3 : hfi h 40 3 = nI n) (V : NeV h (43 + 10 * ((nx + 16) % 17)) p) (iv : IV p) (Q : RT) (kk : ∀ h', XN (sFI h 40 (up1 (up1 (hfi h 40) 2 (nI ((nx + 16) % 17))) 3 (nI (n - 1)))) 26 h' p → Q (some (.int (hia h 42 ((nx + 16) % 17)))) h') : callD (d + 2) 4 [.ref 40, .ref 26] h Q := by
  obtain ⟨-, -, sh, -, -, sn, sr, -⟩ := id s
  unfold XSh at sh
  have lt : (nx + 16) % 17 < 17 := Nat.mod_lt _ (by omega)
  obtain ⟨r1, r2⟩ := sr ((nx + 16) % 17) lt
  have md : nI (nx + 16) - nI (nx + 16) / nI 17 * nI 17 = nI ((nx + 16) % 17) := nI_mod (by omega) (by omega)
  have e4 := she_fi h 40 (up1 (up1 (hfi h 40) 2 (nI ((nx + 16) % 17))) 3 (nI (n - 1)))
  have f40 : hfi (sFI h 40 (up1 (up1 (hfi h 40) 2 (nI ((nx + 16) % 17))) 3 (nI (n - 1)))) 40 2 = nI ((nx + 16) % 17) := by rw [hfi_s, up1_n _ _ (by omega), up1_s]
  have s' : XS (sFI h 40 (up1 (up1 (hfi h 40) 2 (nI ((nx + 16) % 17))) 3 (nI (n - 1)))) := XS_e e4.1.2.2.2 s
  have V' : NeV (sFI h 40 (up1 (up1 (hfi h 40) 2 (nI ((nx + 16) % 17))) 3 (nI (n - 1)))) (43 + 10 * ((nx + 16) % 17)) p := NeV_a (hfi_nn _ _ (by omega)) (fun a _ _ => by rw [ia_fi]) V
  have i42 : hia (sFI h 40 (up1 (up1 (hfi h 40) 2 (nI ((nx + 16) % 17))) 3 (nI (n - 1)))) 42 = hia h 42 := by rw [ia_fi]
  rw [E_Hi_takesBack]
  have q0 : up1 (hfi h 40) 2 (nI ((nx + 16) % 17)) 3 = nI n := by rw [up1_n _ _ (by omega)]; exact h3
  have q2 : up1 (up1 (hfi h 40) 2 (nI ((nx + 16) % 17))) 3 (nI (n - 1)) 2 = nI ((nx + 16) % 17) := by rw [up1_n _ _ (by omega), up1_s]
  generalize hm : (nx + 16) % 17 = m at *
  simp (disch := omega) only [U_Hi_takesBack (cm _), SA, SB, SC1, SC2, SG, SK, SV, up1_s, sh, h2, h3, q0, q2, r2, nI_add, pk_sub, show nx + 17 - 1 = nx + 16 by omega, md, nI_clamp, in_eq, Nat.reduceLeDiff, true_implies, not_true_eq_false, not_false_eq_true, false_implies, true_and, and_true]
  refine ⟨by decide, sn.1.1, ?_⟩
  generalize sFI h 40 (up1 (up1 (hfi h 40) 2 (nI m)) 3 (nI (n - 1))) = h1 at *
  have sr' := (s'.2.2.2.2.2.2.1 m lt).1
  have sn' := s'.2.2.2.2.2.1.1
  refine y_copies d (43 + 10 * m) 26 (by omega) sr' V' sn' ⟨iv.q.1, by have := iv.q.2; omega⟩ _ (fun h' xn => ?_)
  have SE := xn.1.e
  have sh' := (XS_e SE s').2.2.1
  unfold XSh at sh'
  have f2 : hfi h' 40 2 = nI m := by rw [xn.1.2.1 40 (by omega)]; exact f40
  have i2 : hia h' 42 m = hia h 42 m := by rw [xn.1.2.2 42 (by omega), i42]
  have Y := kk h' xn
  simp (disch := omega) only [U_Hi_takesBack (cm _), SA, SB, SC1, SC2, SG, SK, SV, sh', f2, i2, nI_clamp, in_eq, Nat.reduceLeDiff, true_implies, not_true_eq_false, not_false_eq_true, false_implies, true_and, and_true]
  exact Y
theorem op_undo : PairOp 3 95 139 [] := fun d h g => by
  obtain ⟨nx, n, r⟩ := g.2.2.2.2.1
  obtain ⟨V, iv, -⟩ := g.2.2.2.1
  have r' := r
  obtain ⟨r1, r2, r3, r4, r5, r6⟩ := r
  have so := g.1.1
  unfold XSo at so
  have sh := g.1.2.2.1
  unfold XSh at sh
  have sw := WoS_25 g.1
  unfold WoS at sw
  simp only [Nat.reduceAdd] at sw
  rw [E_Di_undo]
  by_cases n0 : n = 0
  · subst n0
    have R := fun Q => x_refused (d + 1) 3 (by omega) g.1 Q
    have e3 : rfV 3 = -3 := by decide
    obtain ⟨hM1, ei, ef, -, fin⟩ := rfM 3 (by omega) g
    rw [e3] at R hM1 ei ef fin
    generalize xrH h (-3) (rfX 3) = h1 at *
    simp (disch := omega) only [U_Di_undo (cm _), SA, SB, SC1, SC2, SG, SK, SV, so, sh, r4, R, eqI, true_implies, not_true_eq_false, not_false_eq_true, false_implies, true_and, and_true]
    refine ⟨_, rfl, ?_⟩
    have k81 := hM1.1
    obtain ⟨hM2, ei2, ef2, kp⟩ := thM hM1
    have f8 : hfi (thH h1) 273 8 = nI 0 := by rw [ef2 8 (by omega), ef]; exact r5
    generalize hh : thH h1 = h2 at *
    unfold thH at hh
    have k82 := hM2.1
    have T := fun Q => m_tellR (d + 1) 3 (by omega) hM2 Q
    rw [e3] at T
    have Y := fin h2 kp
    generalize tnH h2 (-3) 3 = h9 at *
    rw [E_Mo_undo]
    simp (disch := omega) only [U_Mo_undo (cm _), SA, SB, SC1, SC2, SG, SK, SV, hh, k81, k82, f8, T, eqI, true_implies, not_true_eq_false, not_false_eq_true, false_implies, true_and, and_true]
    exact Y
  · sorry
