/-! ===== seen ===== -/
abbrev rgI (x : Int32) (m : Nat) : Prop := nI 0 ≤ x ∧ x ≤ nI m
theorem rg_n {x : Int32} {m : Nat} (hm : m < 2 ^ 31) (h : rgI x m) : ∃ n, n ≤ m ∧ x = nI n := in_n hm (Int32.not_lt.mpr h.1) h.2
theorem rg_no {x : Int32} {m : Nat} (hm : m + 1 < 2 ^ 31) (h : ¬ rgI x m) : x < nI 0 ∨ (¬ x < nI 0 ∧ nI (m + 1) ≤ x) := by
  by_cases c : x < nI 0
  · exact Or.inl c
  · refine Or.inr ⟨c, ?_⟩
    have c2 : ¬ x ≤ nI m := fun z => h ⟨Int32.not_lt.mp c, z⟩
    have z := Int32.not_le.mp c2
    rw [Int32.lt_iff_toInt_lt, nI_toInt (by omega)] at z
    rw [Int32.le_iff_toInt_le, nI_toInt (by omega)]
    omega
/-- refused by the program: what the reference finds then -/
theorem rfM {h : MH} (k : Nat) (hk : k = 1 ∨ k = 2 ∨ k = 3 ∨ k = 5 ∨ k = 6) (g : GI h) : MoS (xrH h (rfV k) (rfX k)) ∧ (∀ a, a ≠ 244 → hia (xrH h (rfV k) (rfX k)) a = hia h a) ∧ hfi (xrH h (rfV k) (rfX k)) 273 = hfi h 273 ∧ hja (xrH h (rfV k) (rfX k)) = hja h ∧ ∀ hc, KP (xrH h (rfV k) (rfX k)) hc → Pst h (tnH hc (rfV k) k) := by
  have KX := KQ_xr h (rfV k) (rfX k)
  obtain ⟨x1, x2, x3, x4, x5⟩ := xr_g h (rfV k) (rfX k)
  refine ⟨KX.1.2.2.2.M g.2.1.1, x5, x4 273 (by omega), rfl, fun hc kp => ?_⟩
  exact Pst_e (GI_refused k hk g (KP.refl h) kp) ((KX.E.trans kp.E).trans (KQ_tn hc (rfV k) k).E)
theorem thM {h : MH} (hM : MoS h) : MoS (thH h) ∧ hia (thH h) = hia h ∧ (∀ n, n ≠ 0 → hfi (thH h) 273 n = hfi h 273 n) ∧ KP h (thH h) := by
  have K := KP_th h
  exact ⟨K.1.2.2.2.M hM, rfl, fun n hn => by unfold thH; rw [hfi_s, up1_n _ _ hn], K⟩
def xsH (h : MH) (ns f n : Nat) : MH := xwH (sFI (sIA (sIA h 37 (up1 (hia h 37) ns (nI f))) 38 (up1 (hia h 38) ns (nI n))) 25 (up1 (hfi h 25) 6 (nI (ns + 1))))
theorem x_seen (d : Nat) (f n : Int32) {ns : Nat} (hs : ns ≤ 6) {h : MH} (s : XS h) (w6 : hfi h 25 6 = nI ns) (Q : RT) (K1 : ¬ (rgI f 3 ∧ rgI n 6) → Q (some (.int (rfV 1))) (xrH h (rfV 1) (rfX 1))) (K5 : rgI f 3 → rgI n 6 → ns = 6 → Q (some (.int (rfV 5))) (xrH h (rfV 5) (rfX 5))) (KO : ∀ f' n', f' ≤ 3 → n' ≤ 6 → f = nI f' → n = nI n' → ns < 6 → Q (some (.int (nI (ns + 1)))) (xsH h ns f' n')) : callD (d + 2) 101 [.ref 24, .int f, .int n] h Q := by
  have so := s.1
  unfold XSo at so
  have sw := WoS_25 s
  unfold WoS at sw
  simp only [Nat.reduceAdd] at sw
  have R1 := fun Q => x_refused d 1 (by omega) s Q
  have R5 := fun Q => x_refused d 5 (by omega) s Q
  have e1 : rfV 1 = -1 := by decide
  have e5 : rfV 5 = -5 := by decide
  rw [e1] at R1 K1
  rw [e5] at R5 K5
  rw [E_Di_seen]
  by_cases c1 : rgI f 3
  · obtain ⟨f', hf, rfl⟩ := rg_n (by omega) c1
    by_cases c2 : rgI n 6
    · obtain ⟨n', hn, rfl⟩ := rg_n (by omega) c2
      by_cases c3 : ns = 6
      · have Y := K5 c1 c2 c3
        generalize xrH h (-5) (rfX 5) = h1 at *
        subst c3
        simp (disch := omega) only [U_Di_seen (cm _), SA, SB, SC1, SC2, SG, SK, SV, so, sw, w6, R5, ltI, leI, Nat.not_lt_zero, show ¬ 4 ≤ f' by omega, show n' < 7 by omega, show ¬ 6 < 6 by omega, true_implies, not_true_eq_false, not_false_eq_true, false_implies, true_and, and_true]
        exact Y
      · have Y := KO f' n' hf hn rfl rfl (by omega)
        have W := x_went d (nI (ns + 1)) (h := sFI (sIA (sIA h 37 (up1 (hia h 37) ns (nI f'))) 38 (up1 (hia h 38) ns (nI n'))) 25 (up1 (hfi h 25) 6 (nI (ns + 1)))) (XS_e (SHE.refl h) s)
        unfold xsH at Y
        generalize xwH _ = h9 at *
        have z38 : hia (sIA h 37 (up1 (hia h 37) ns (nI f'))) 38 = hia h 38 := hia_n _ _ (by omega)
        simp (disch := omega) only [U_Di_seen (cm _), SA, SB, SC1, SC2, SG, SK, SV, SM, up1_s, so, sw, w6, z38, W, ltI, leI, nI_add, nI_clamp, in_eq, Nat.reduceLeDiff, Nat.not_lt_zero, show ¬ 4 ≤ f' by omega, show n' < 7 by omega, show ns < 6 by omega, true_implies, not_true_eq_false, not_false_eq_true, false_implies, true_and, and_true]
        exact Y
    · have Y := K1 (fun z => c2 z.2)
      generalize xrH h (-1) (rfX 1) = h1 at *
      rcases rg_no (by omega) c2 with z | ⟨z1, z2⟩
      · simp (disch := omega) only [U_Di_seen (cm _), SA, SB, SC1, SC2, SG, SK, SV, so, sw, w6, R1, z, ltI, leI, Nat.not_lt_zero, show ¬ 4 ≤ f' by omega, true_implies, not_true_eq_false, not_false_eq_true, false_implies, true_and, and_true]
        exact Y
      · have z3 : ¬ n < nI 7 := Int32.not_lt.mpr z2
        simp (disch := omega) only [U_Di_seen (cm _), SA, SB, SC1, SC2, SG, SK, SV, so, sw, w6, R1, z1, z3, ltI, leI, Nat.not_lt_zero, show ¬ 4 ≤ f' by omega, true_implies, not_true_eq_false, not_false_eq_true, false_implies, true_and, and_true]
        exact Y
  · have Y := K1 (fun z => c1 z.1)
    generalize xrH h (-1) (rfX 1) = h1 at *
    rcases rg_no (by omega) c1 with z | ⟨z1, z2⟩
    · simp (disch := omega) only [U_Di_seen (cm _), SA, SB, SC1, SC2, SG, SK, SV, so, sw, w6, R1, z, true_implies, not_true_eq_false, not_false_eq_true, false_implies, true_and, and_true]
      exact Y
    · simp (disch := omega) only [U_Di_seen (cm _), SA, SB, SC1, SC2, SG, SK, SV, so, sw, w6, R1, z1, z2, true_implies, not_true_eq_false, not_false_eq_true, false_implies, true_and, and_true]
      exact Y
theorem m_seen (d : Nat) (f n : Int32) {ns : Nat} (hs : ns ≤ 6) {h h2 : MH} (hh : thH h = h2) (k8 : hkd h 273 = 8) (hM : MoS h2) (w0 : hia h2 275 0 = nI ns) (Q : RT) (K1 : ¬ (rgI f 3 ∧ rgI n 6) → Q (some (.int (rfV 1))) (tnH h2 (rfV 1) 1)) (K5 : rgI f 3 → rgI n 6 → ns = 6 → Q (some (.int (rfV 5))) (tnH h2 (rfV 5) 5)) (KO : ∀ f' n', f' ≤ 3 → n' ≤ 6 → f = nI f' → n = nI n' → ns < 6 → Q (some (.int (nI (ns + 1)))) (tpH (sIA h2 275 (up1 (up1 (up1 (hia h2 275) (2010 + 2 * ns) (nI f')) (2010 + 2 * ns + 1) (nI n')) 0 (nI (ns + 1)))))) : callD (d + 2) 228 [.ref 273, .int f, .int n] h Q := by
  obtain ⟨k82, r2, r3, r4⟩ := hM.row
  unfold thH at hh
  have IF := fun h Q => e_in d f.toInt64 (lN 0) (lN 3) h Q
  have IN := fun h Q => e_in d n.toInt64 (lN 0) (lN 6) h Q
  have qf := i2l_r f 3 (by omega)
  have qn := i2l_r n 6 (by omega)
  have T1 := fun Q => m_tellR d 1 (by omega) hM Q
  have T5 := fun Q => m_tellR d 5 (by omega) hM Q
  have e1 : rfV 1 = -1 := by decide
  have e5 : rfV 5 = -5 := by decide
  rw [e1] at T1 K1
  rw [e5] at T5 K5
  rw [E_Mo_seen]
  by_cases c1 : rgI f 3
  · have bf : b01 (lN 0 ≤ f.toInt64 ∧ f.toInt64 ≤ lN 3) = nI 1 := b01_t (by rw [qf]; exact c1)
    by_cases c2 : rgI n 6
    · have bn : b01 (lN 0 ≤ n.toInt64 ∧ n.toInt64 ≤ lN 6) = nI 1 := b01_t (by rw [qn]; exact c2)
      by_cases c3 : ns = 6
      · have Y := K5 c1 c2 c3
        generalize tnH h2 (-5) 5 = h9 at *
        subst c3
        simp (disch := omega) only [U_Mo_seen (cm _), SA, SB, SC1, SC2, SG, SK, SV, hh, k8, k82, r2, r3, r4, w0, IF, IN, bf, bn, T5, eqI, nI_clamp, in_eq, Nat.reduceLeDiff, Nat.one_ne_zero, true_implies, not_true_eq_false, not_false_eq_true, false_implies, true_and, and_true]
        exact Y
      · obtain ⟨f', hf, rfl⟩ := rg_n (by omega) c1
        obtain ⟨n', hn, rfl⟩ := rg_n (by omega) c2
        have Y := KO f' n' hf hn rfl rfl (by omega)
        have R0 : up1 (up1 (hia h2 275) (2010 + 2 * ns) (nI f')) (2010 + 2 * ns + 1) (nI n') 0 = nI ns := by rw [up1_n _ _ (by omega), up1_n _ _ (by omega)]; exact w0
        have TP := m_tellP d (ns + 1) (by omega) (h := sIA h2 275 (up1 (up1 (up1 (hia h2 275) (2010 + 2 * ns) (nI f')) (2010 + 2 * ns + 1) (nI n')) 0 (nI (ns + 1)))) hM
        generalize tpH _ = h9 at *
        simp (disch := omega) only [U_Mo_seen (cm _), SA, SB, SC1, SC2, SG, SK, SV, up1_s, hh, k8, k82, r2, r3, r4, w0, R0, IF, IN, bf, bn, TP, eqI, c3, nI_add, pk_mul, nI_clamp, in_eq, Nat.reduceLeDiff, Nat.one_ne_zero, true_implies, not_true_eq_false, not_false_eq_true, false_implies, true_and, and_true]
        exact Y
    · have bn : b01 (lN 0 ≤ n.toInt64 ∧ n.toInt64 ≤ lN 6) = nI 0 := b01_f (by rw [qn]; exact c2)
      have Y := K1 (fun z => c2 z.2)
      generalize tnH h2 (-1) 1 = h9 at *
      simp (disch := omega) only [U_Mo_seen (cm _), SA, SB, SC1, SC2, SG, SK, SV, hh, k8, k82, IF, IN, bf, bn, T1, eqI, Nat.one_ne_zero, true_implies, not_true_eq_false, not_false_eq_true, false_implies, true_and, and_true]
      exact Y
  · have bf : b01 (lN 0 ≤ f.toInt64 ∧ f.toInt64 ≤ lN 3) = nI 0 := b01_f (by rw [qf]; exact c1)
    have Y := K1 (fun z => c1 z.1)
    generalize tnH h2 (-1) 1 = h9 at *
    simp (disch := omega) only [U_Mo_seen (cm _), SA, SB, SC1, SC2, SG, SK, SV, hh, k8, k82, IF, bf, T1, eqI, Nat.one_ne_zero, true_implies, not_true_eq_false, not_false_eq_true, false_implies, true_and, and_true]
    exact Y
