/-! ===== terms ===== -/
def tmA (w : Nat) : Nat := if w = 0 then 26 else 25
def tmK (w : Nat) : Nat := if w = 0 then 12 else if w = 1 then 7 else 8
def tmP (w : Nat) : Nat := if w = 0 then 5 else if w = 1 then 3 else 4
def mxT (w : Nat) : Nat := if w = 0 then 999 else if w = 1 then 10 else 9
theorem x_setTerm (d w : Nat) (v : Int32) (hw : w < 3) {h : MH} (s : XS h) (Q : RT) : callD (d + 1) 77 [.ref 25, .int (nI w), .int v] h Q = Q none (sFI h (tmA w) (up1 (hfi h (tmA w)) (tmK w) v)) := by
  have sw := WoS_25 (s)
  unfold WoS at sw
  simp only [Nat.reduceAdd] at sw
  have k2 := s.2.2.2.2.2.1.1.1
  unfold tmA tmK
  rw [E_Wo_setTerm]
  rcases (show w = 0 ∨ w = 1 ∨ w = 2 by omega) with rfl | rfl | rfl
  · simp (disch := omega) only [U_Wo_setTerm (cm _), SA, SB, SC1, SC2, SG, SK, SV, sw, k2, eqI, eq_self, if_true, Nat.reduceLeDiff, true_or, or_true, true_implies, not_true_eq_false, not_false_eq_true, false_implies, true_and, and_true]
  · simp (disch := omega) only [U_Wo_setTerm (cm _), SA, SB, SC1, SC2, SG, SK, SV, sw, k2, eqI, eq_self, Nat.one_ne_zero, if_true, if_false, Nat.reduceLeDiff, true_or, or_true, true_implies, not_true_eq_false, not_false_eq_true, false_implies, true_and, and_true]
  · simp (disch := omega) only [U_Wo_setTerm (cm _), SA, SB, SC1, SC2, SG, SK, SV, sw, k2, eqI, eq_self, Nat.reduceEqDiff, if_true, if_false, Nat.reduceLeDiff, true_or, or_true, true_implies, not_true_eq_false, not_false_eq_true, false_implies, true_and, and_true]
theorem x_clears (d : Nat) {h : MH} (s : XS h) (Q : RT) : callD (d + 1) 5 [.ref 40] h Q = Q none (sFI h 40 (up1 (hfi h 40) 3 (nI 0))) := by
  have sh := s.2.2.1
  unfold XSh at sh
  rw [E_Hi_clears]
  simp (disch := omega) only [U_Hi_clears (cm _), SA, SB, SC1, SC2, SG, SK, SV, sh, Nat.reduceLeDiff, true_or, or_true, true_implies, not_true_eq_false, not_false_eq_true, false_implies, true_and, and_true]
theorem m_change (d a : Nat) (v : Int32) (ha : a < 7422) {h : MH} (hM : MoS h) (Q : RT) : callD (d + 1) 134 [.ref 273, .int (nI a), .int v] h Q = Q (some (.int (hia h 275 a))) (sFI (sIA h 275 (up1 (hia h 275) a v)) 273 (up1 (hfi h 273) 1 (nI 0))) := by
  obtain ⟨k8, r2, r3, r4⟩ := hM.row
  rw [E_Mo_change]
  simp (disch := omega) only [U_Mo_change (cm _), SA, SB, SC1, SC2, SG, SK, SV, k8, r2, r3, r4, nI_clamp, in_eq, Nat.reduceLeDiff, true_or, or_true, true_implies, not_true_eq_false, not_false_eq_true, false_implies, true_and, and_true]
def okT (w v : Int32) : Prop := ∃ w' v', w' < 3 ∧ v' ≤ mxT w' ∧ w = nI w' ∧ v = nI v'
def txH (h : MH) (w v : Nat) : MH := sFI (sFI h (tmA w) (up1 (hfi h (tmA w)) (tmK w) (nI v))) 40 (up1 (hfi h 40) 3 (nI 0))
theorem mx_lt (w : Nat) : mxT w < 2 ^ 30 := by unfold mxT; split; · omega
                                               split <;> omega
theorem x_terms (d : Nat) (w v : Int32) {h : MH} (s : XS h) (dy : hkd h 1 = 20 ∧ hln h 1 = 3 ∧ hia h 1 0 = nI 999 ∧ hia h 1 1 = nI 10 ∧ hia h 1 2 = nI 9) (Q : RT) (K1 : ¬ okT w v → Q (some (.int (rfV 1))) (xrH h (rfV 1) (rfX 1))) (KO : ∀ w' v', w' < 3 → v' ≤ mxT w' → w = nI w' → v = nI v' → Q (some (.int (hfi h (tmA w') (tmK w')))) (xwH (txH h w' v'))) : callD (d + 2) 82 [.ref 24, .int w, .int v] h Q := by
  have so := (s).1
  unfold XSo at so
  obtain ⟨d1, d2, d3, d4, d5⟩ := dy
  have R1 := fun Q => x_refused d 1 (by omega) s Q
  have e1 : rfV 1 = -1 := by decide
  rw [e1] at R1 K1
  rw [E_Di_terms]
  by_cases c1 : rgI w 2
  · obtain ⟨w', hw, rfl⟩ := rg_n (by omega) c1
    have mw : hia h 1 w' = nI (mxT w') := by
      unfold mxT
      rcases (show w' = 0 ∨ w' = 1 ∨ w' = 2 by omega) with rfl | rfl | rfl
      · exact d3
      · exact d4
      · exact d5
    have ml := mx_lt w'
    by_cases c2 : rgI v (mxT w')
    · obtain ⟨v', hv, rfl⟩ := rg_n (by omega) c2
      have Y := KO w' v' (by omega) hv rfl rfl
      have TE := fun Q => x_term d w' (by omega) s Q
      have tv : (if w' = 0 then hfi h 26 12 else if w' = 1 then hfi h 25 7 else hfi h 25 8) = hfi h (tmA w') (tmK w') := by
        rcases (show w' = 0 ∨ w' = 1 ∨ w' = 2 by omega) with rfl | rfl | rfl <;> rfl
      rw [tv] at TE
      have ST := fun Q => x_setTerm d w' (nI v') (by omega) s Q
      have a1 : tmA w' = 26 ∨ tmA w' = 25 := by unfold tmA; split; · exact Or.inl rfl
                                                · exact Or.inr rfl
      unfold txH at Y
      have b1 := she_fi h (tmA w') (up1 (hfi h (tmA w')) (tmK w') (nI v'))
      have b2 : hfi (sFI h (tmA w') (up1 (hfi h (tmA w')) (tmK w') (nI v'))) 40 = hfi h 40 := hfi_nn _ _ (by omega)
      rw [← b2] at Y
      generalize sFI h (tmA w') (up1 (hfi h (tmA w')) (tmK w') (nI v')) = h1 at *
      have s1 := XS_e b1.1.2.2.2 s
      have CL := fun Q => x_clears d s1 Q
      have so1 := s1.1
      unfold XSo at so1
      have b3 := she_fi h1 40 (up1 (hfi h1 40) 3 (nI 0))
      generalize sFI h1 40 (up1 (hfi h1 40) 3 (nI 0)) = h2 at *
      have s2 := XS_e b3.1.2.2.2 s1
      have k72 := s2.1.1
      have W := fun Q => x_went d (hfi h (tmA w') (tmK w')) s2 Q
      generalize xwH h2 = h3 at *
      generalize hfi h (tmA w') (tmK w') = ov' at *
      have k25 := (WoS_25 s).1
      have k40 := s1.2.2.1.1
      simp (disch := omega) only [U_Di_terms (cm _), SA, SB, SC1, SC2, SG, SK, SV, so, so1, k72, k25, k40, d1, d2, mw, TE, ST, CL, W, ltI, leI, Nat.not_lt_zero, show ¬ 3 ≤ w' by omega, hv, nI_clamp, in_eq, Nat.reduceLeDiff, Nat.le_refl, true_or, or_true, true_implies, not_true_eq_false, not_false_eq_true, false_implies, true_and, and_true]
      exact Y
    · have Y := K1 (fun ⟨a, b, ha, hb, ea, eb⟩ => c2 (by
        have : a = w' := by rw [eqI (by omega) (by omega)] at ea; exact ea.symm
        subst this
        rw [eb]; exact rgI_n hb (by omega)))
      generalize xrH h (-1) (rfX 1) = h1 at *
      rcases rg_no (by omega) c2 with z | ⟨z1, z2⟩
      · simp (disch := omega) only [U_Di_terms (cm _), SA, SB, SC1, SC2, SG, SK, SV, so, d1, d2, mw, R1, z, ltI, leI, Nat.not_lt_zero, show ¬ 3 ≤ w' by omega, nI_clamp, in_eq, Nat.reduceLeDiff, Nat.le_refl, true_or, or_true, true_implies, not_true_eq_false, not_false_eq_true, false_implies, true_and, and_true]
        exact Y
      · have z3 : ¬ v ≤ nI (mxT w') := fun y => c2 ⟨Int32.not_lt.mp z1, y⟩
        simp (disch := omega) only [U_Di_terms (cm _), SA, SB, SC1, SC2, SG, SK, SV, so, d1, d2, mw, R1, z1, z3, ltI, leI, Nat.not_lt_zero, show ¬ 3 ≤ w' by omega, nI_clamp, in_eq, Nat.reduceLeDiff, Nat.le_refl, true_or, or_true, true_implies, not_true_eq_false, not_false_eq_true, false_implies, true_and, and_true]
        exact Y
  · have Y := K1 (fun ⟨a, b, ha, hb, ea, eb⟩ => c1 (by rw [ea]; exact rgI_n (by omega) (by omega)))
    generalize xrH h (-1) (rfX 1) = h1 at *
    rcases rg_no (by omega) c1 with z | ⟨z1, z2⟩
    · simp (disch := omega) only [U_Di_terms (cm _), SA, SB, SC1, SC2, SG, SK, SV, so, d1, d2, R1, z, true_or, or_true, true_implies, not_true_eq_false, not_false_eq_true, false_implies, true_and, and_true]
      exact Y
    · have z2' : nI 3 ≤ w := z2
      simp (disch := omega) only [U_Di_terms (cm _), SA, SB, SC1, SC2, SG, SK, SV, so, d1, d2, R1, z1, z2', Nat.le_refl, Nat.reduceLeDiff, true_or, or_true, true_implies, not_true_eq_false, not_false_eq_true, false_implies, true_and, and_true]
      exact Y
theorem m_terms (d : Nat) (w v : Int32) {h h2 : MH} (hh : thH h = h2) (k8 : hkd h 273 = 8) (hM : MoS h2) (Q : RT) (K1 : ¬ okT w v → Q (some (.int (rfV 1))) (tnH h2 (rfV 1) 1)) (KO : ∀ w' v', w' < 3 → v' ≤ mxT w' → w = nI w' → v = nI v' → Q (some (.int (hia h2 275 (tmP w')))) (sFI (sIA (sFI h2 273 (up1 (hfi h2 273) 8 (nI 0))) 275 (up1 (hia h2 275) (tmP w') (nI v'))) 273 (up1 (up1 (hfi h2 273) 8 (nI 0)) 1 (nI 0)))) : callD (d + 2) 157 [.ref 273, .int w, .int v] h Q := by
  unfold thH at hh
  have k82 := hM.1
  have T1 := fun Q => m_tellR d 1 (by omega) hM Q
  have e1 : rfV 1 = -1 := by decide
  rw [e1] at T1 K1
  have IN := fun n h Q => e_in d v.toInt64 (lN 0) (lN n) h Q
  have b1 := she_fi h2 273 (up1 (hfi h2 273) 8 (nI 0))
  have b2 := hfi_s h2 273 (up1 (hfi h2 273) 8 (nI 0))
  have b3 := ia_fi h2 273 (up1 (hfi h2 273) 8 (nI 0))
  generalize hb : sFI h2 273 (up1 (hfi h2 273) 8 (nI 0)) = h3 at *
  rw [← b3, ← b2] at KO
  have M3 := b1.1.2.2.2.M hM
  have k83 := M3.1
  rw [E_Mo_terms]
  by_cases c1 : rgI w 2
  · obtain ⟨w', hw, rfl⟩ := rg_n (by omega) c1
    have q := i2l_r v (mxT w') (by have := mx_lt w'; omega)
    have TA := fun h Q => m_termAt d w' (by omega) h Q
    have tp : (if w' = 0 then 5 else if w' = 1 then 3 else 4) = tmP w' := rfl
    rw [tp] at TA
    have tpl : tmP w' < 7422 := by unfold tmP; split; · omega
                                   split <;> omega
    have CH := fun v Q => m_change d (tmP w') v tpl M3 Q
    by_cases c2 : rgI v (mxT w')
    · obtain ⟨v', hv, rfl⟩ := rg_n (by have := mx_lt w'; omega) c2
      have Y := KO w' v' (by omega) hv rfl rfl
      have I1 := fun h Q => IN (mxT w') h Q
      rw [b01_t (by rw [q]; exact c2)] at I1
      have CH' := fun Q => CH (nI v') Q
      generalize sFI (sIA h3 275 (up1 (hia h3 275) (tmP w') (nI v'))) 273 (up1 (hfi h3 273) 1 (nI 0)) = h9 at *
      generalize hia h3 275 (tmP w') = ov' at *
      generalize tmP w' = tq at *
      rcases (show w' = 0 ∨ w' = 1 ∨ w' = 2 by omega) with rfl | rfl | rfl
      · have I1' : ∀ h Q, callD (d + 1) 130 [.long (nI v').toInt64, .long (lN 0), .long (lN 999)] h Q = Q (some (.int (nI 1))) h := I1
        simp (disch := omega) only [U_Mo_terms (cm _), SA, SB, SC1, SC2, SG, SK, SV, hh, hb, k8, k82, k83, I1', TA, CH', eqI, eq_self, Nat.one_ne_zero, true_or, or_true, true_implies, not_true_eq_false, not_false_eq_true, false_implies, true_and, and_true]
        exact Y
      · have I1' : ∀ h Q, callD (d + 1) 130 [.long (nI v').toInt64, .long (lN 0), .long (lN 10)] h Q = Q (some (.int (nI 1))) h := I1
        simp (disch := omega) only [U_Mo_terms (cm _), SA, SB, SC1, SC2, SG, SK, SV, hh, hb, k8, k82, k83, I1', TA, CH', eqI, eq_self, Nat.one_ne_zero, true_or, or_true, true_implies, not_true_eq_false, not_false_eq_true, false_implies, true_and, and_true]
        exact Y
      · have I1' : ∀ h Q, callD (d + 1) 130 [.long (nI v').toInt64, .long (lN 0), .long (lN 9)] h Q = Q (some (.int (nI 1))) h := I1
        simp (disch := omega) only [U_Mo_terms (cm _), SA, SB, SC1, SC2, SG, SK, SV, hh, hb, k8, k82, k83, I1', TA, CH', eqI, eq_self, Nat.one_ne_zero, Nat.reduceEqDiff, true_or, or_true, true_implies, not_true_eq_false, not_false_eq_true, false_implies, true_and, and_true]
        exact Y
    · have Y := K1 (fun ⟨a, b, ha, hb, ea, eb⟩ => c2 (by
        have : a = w' := by rw [eqI (by omega) (by omega)] at ea; exact ea.symm
        subst this
        rw [eb]; exact rgI_n hb (by have := mx_lt a; omega)))
      generalize tnH h2 (-1) 1 = h9 at *
      have I1 := fun h Q => IN (mxT w') h Q
      rw [b01_f (by rw [q]; exact c2)] at I1
      rcases (show w' = 0 ∨ w' = 1 ∨ w' = 2 by omega) with rfl | rfl | rfl
      · have I1' : ∀ h Q, callD (d + 1) 130 [.long v.toInt64, .long (lN 0), .long (lN 999)] h Q = Q (some (.int (nI 0))) h := I1
        simp (disch := omega) only [U_Mo_terms (cm _), SA, SB, SC1, SC2, SG, SK, SV, hh, k8, k82, I1', T1, eqI, eq_self, Nat.one_ne_zero, true_or, or_true, true_implies, not_true_eq_false, not_false_eq_true, false_implies, true_and, and_true]
        exact Y
      · have I1' : ∀ h Q, callD (d + 1) 130 [.long v.toInt64, .long (lN 0), .long (lN 10)] h Q = Q (some (.int (nI 0))) h := I1
        simp (disch := omega) only [U_Mo_terms (cm _), SA, SB, SC1, SC2, SG, SK, SV, hh, k8, k82, I1', T1, eqI, eq_self, Nat.one_ne_zero, true_or, or_true, true_implies, not_true_eq_false, not_false_eq_true, false_implies, true_and, and_true]
        exact Y
      · have I1' : ∀ h Q, callD (d + 1) 130 [.long v.toInt64, .long (lN 0), .long (lN 9)] h Q = Q (some (.int (nI 0))) h := I1
        simp (disch := omega) only [U_Mo_terms (cm _), SA, SB, SC1, SC2, SG, SK, SV, hh, k8, k82, I1', T1, eqI, eq_self, Nat.one_ne_zero, Nat.reduceEqDiff, true_or, or_true, true_implies, not_true_eq_false, not_false_eq_true, false_implies, true_and, and_true]
        exact Y
  · have Y := K1 (fun ⟨a, b, ha, hb, ea, eb⟩ => c1 (by rw [ea]; exact rgI_n (by omega) (by omega)))
    generalize tnH h2 (-1) 1 = h9 at *
    have n0 : ¬ w = nI 0 := fun z => c1 (by rw [z]; exact rgI_n (by omega) (by omega))
    have n1 : ¬ w = nI 1 := fun z => c1 (by rw [z]; exact rgI_n (by omega) (by omega))
    have n2 : ¬ w = nI 2 := fun z => c1 (by rw [z]; exact rgI_n (by omega) (by omega))
    simp (disch := omega) only [U_Mo_terms (cm _), SA, SB, SC1, SC2, SG, SK, SV, hh, k8, k82, T1, n0, n1, n2, eqI, eq_self, true_or, or_true, true_implies, not_true_eq_false, not_false_eq_true, false_implies, true_and, and_true]
    exact Y
/-- behind what clears what can be taken back -/
theorem GI_clr {h h' : MH} (g : GI h) (S : hsz h' = hsz h ∧ hcc h' = hcc h ∧ hcu h' = hcu h ∧ SHE h h') (F : ∀ a, a ≠ 24 → a ≠ 25 → a ≠ 26 → a ≠ 40 → a ≠ 273 → hfi h' a = hfi h a) (F24 : hfi h' 24 = up1 (hfi h 24) 13 (nI 0)) (F40 : hfi h' 40 = up1 (hfi h 40) 3 (nI 0)) (F273 : ∀ k, k ≠ 0 → k ≠ 1 → k ≠ 8 → hfi h' 273 k = hfi h 273 k) (f1 : hfi h' 273 1 = nI 0) (f8 : hfi h' 273 8 = nI 0) (C : ∀ a, a ≠ 275 → hia h' a = hia h a) (J : hja h' = hja h) (W : WV h' 25 (hia h' 275)) : Pst h h' := by
  obtain ⟨S1, S2, S3, S4⟩ := S
  refine Pst_e (GI_mk (KI_e S1 S4 (fun a _ => by rw [J]) ⟨by rw [F24, up1_n _ _ (by omega)], by rw [F24, up1_n _ _ (by omega)], F273 52 (by omega) (by omega) (by omega)⟩ (fun a ha => F a (by omega) (by omega) (by omega) (by omega) (by omega)) (fun a ha => C a (by omega))) g W ?_ ?_ ?_) ⟨⟨S1, S2, S3, S4⟩, C 0 (by omega)⟩
  · obtain ⟨nx, n, r1, r2, r3, r4, r5, r6⟩ := g.2.2.2.2.1
    exact ⟨nx, 0, r1, by omega, by rw [F40, up1_n _ _ (by omega)]; exact r3, by rw [F40, up1_s], f8, fun j hj => absurd hj (Nat.not_lt_zero j)⟩
  · exact CtV_v (nI 0) g.2.2.2.2.2.2.1 (C 244 (by omega)) (C 274 (by omega)) (by rw [F24, up1_s]) f1 (fun k hk => by rw [F24, up1_n _ _ (by omega)]) (by rw [F 213 (by omega) (by omega) (by omega) (by omega) (by omega)]) (fun k hk => F273 k (by omega) (by omega) (by omega))
  · obtain ⟨T, t⟩ := g.2.2.2.2.2.2.2.1
    refine ⟨T, ?_⟩
    unfold TpV at *
    rw [C 215 (by omega), C 282 (by omega), F 214 (by omega) (by omega) (by omega) (by omega) (by omega), F273 13 (by omega) (by omega) (by omega)]
    exact t
theorem IV.tm {p : RW} (x : IV p) {t : Nat} (ht : t ≤ 999) : IV (up1 p 5 (nI t)) := by
  obtain ⟨⟨⟨c, tt, s⟩, m, -, q⟩, v, h0⟩ := x
  refine ⟨⟨⟨IC_c (fun a b ha hb => gC_up (by omega)) c, IT_c (fun a b ha hb => gT_up (by omega)) tt, fun a ha => IR_c (fun j hj => gR_up (by omega)) (s a ha)⟩, fun i hi => ?_, ⟨t, ht, up1_s _ _ _⟩, ?_⟩, iv_lo (fun a b ha hb => gC_up (by omega)) (fun a j ha hj => gR_up (by omega)) v, (gR_up (by omega)).trans h0⟩
  · rw [ql_up (by omega)] at hi
    obtain ⟨k, f, t', d, mv, l⟩ := m i hi
    exact ⟨k, f, t', d, MV_c (fun c hc => up1_n _ _ (by omega)) mv, by rw [gC_up (by omega)]; exact l⟩
  · rw [QL_up (by omega)]; exact q
/-- a term of the world is changed -/
theorem WV_tm {h h' : MH} {p : RW} {w v : Nat} (hw : w < 3) (hv : v ≤ mxT w) (s : XS h) (W : WV h 25 p) (S : hsz h' = hsz h ∧ SHE h h') (A : ∀ a, a = 25 ∨ a = 26 ∨ 300 ≤ a → hfi h' a = if a = tmA w then up1 (hfi h a) (tmK w) (nI v) else hfi h a) (C : ∀ a, a ≠ 275 → hia h' a = hia h a) : WV h' 25 (up1 p (tmP w) (nI v)) := by
  obtain ⟨S1, S4⟩ := S
  have X : ∀ x, 300 ≤ x → x < hsz h → hkd h' x = hkd h x ∧ hln h' x = hln h x ∧ hfr h' x = hfr h x ∧ hfi h' x = hfi h x ∧ hia h' x = hia h x := fun x h1 _ => ⟨by rw [S4.1], by rw [S4.2.1], by rw [S4.2.2.1], by rw [A x (by omega), if_neg (by unfold tmA; split <;> omega)], C x (by omega)⟩
  obtain ⟨V, iv, ⟨w4, w5, w6, w7, w8⟩, ⟨nl, l1, l2, l3, l4⟩, ⟨ns, n1, n2, n3⟩, ⟨md, m1, m2⟩, ⟨sl, s1, s2⟩⟩ := W
  have A25 := A 25 (by omega)
  have A26 := A 26 (by omega)
  have LW : ∀ q : RW, (∀ y, 2022 ≤ y → q y = p y) → q 1 = p 1 → q 2 = p 2 → LwV h' (25 + 11) q := fun q c2 c3 c4 => ⟨nl, l1, c3.trans l2, by rw [c4]; exact l3, fun i hi => by
    obtain ⟨a, L, y1, y2, y3, y4, y5⟩ := l4 i hi
    exact ⟨a, L, by rw [S4.2.2.2]; exact y1, y2, by omega, PXh_a (fun x h1 h2 => X x (by omega) (by omega)) y4, TX_c c2 y5⟩⟩
  have SN : ∀ q : RW, q 0 = p 0 → (∀ y, 2010 ≤ y → q y = p y) → SnV h' 25 q := fun q c0 c1 => ⟨ns, n1, c0.trans n2, fun i hi => by
    rw [C (25 + 12) (by omega), C (25 + 13) (by omega), c1 _ (by omega), c1 _ (by omega)]
    exact n3 i hi⟩
  rcases (show w = 0 ∨ w = 1 ∨ w = 2 by omega) with rfl | rfl | rfl
  · have t0 : tmP 0 = 5 := rfl
    have a0 : tmA 0 = 26 := rfl
    have k0 : tmK 0 = 12 := rfl
    have hv' : v ≤ 999 := hv
    rw [a0, if_neg (by omega)] at A25
    rw [a0, k0, if_pos rfl] at A26
    rw [t0]
    have X1 := (XN.of s.2.2.2.2.2.1.1 V).tim (nI v)
    refine ⟨NeV_a (by rw [A26, hfi_s]) (fun a h1 h2 => by rw [C a (by omega), ia_fi]) X1.2.2, iv.tm hv', ?_, LW _ (fun y hy => up1_n _ _ (by omega)) (up1_n _ _ (by omega)) (up1_n _ _ (by omega)), SN _ (up1_n _ _ (by omega)) (fun y hy => up1_n _ _ (by omega)), ⟨md, m1, (up1_n _ _ (by omega)).trans m2⟩, ⟨sl, s1, (up1_n _ _ (by omega)).trans s2⟩⟩
    rw [A25, up1_n _ _ (by omega), up1_n _ _ (by omega), up1_n _ _ (by omega), up1_n _ _ (by omega), up1_n _ _ (by omega)]
    exact ⟨w4, w5, w6, w7, w8⟩
  · have t0 : tmP 1 = 3 := rfl
    have a0 : tmA 1 = 25 := rfl
    have k0 : tmK 1 = 7 := rfl
    have hv' : v ≤ 10 := hv
    rw [a0, k0, if_pos rfl] at A25
    rw [a0, if_neg (by omega)] at A26
    rw [t0]
    have hq : ∀ j, 5 ≤ j → j < 1754 → up1 p 3 (nI v) j = p j := fun j h1 _ => up1_n _ _ (by omega)
    refine ⟨NeV_c hq iv.q (NeV_a A26 (fun a h1 h2 => C a (by omega)) V), IV_c hq iv, ?_, LW _ (fun y hy => up1_n _ _ (by omega)) (up1_n _ _ (by omega)) (up1_n _ _ (by omega)), SN _ (up1_n _ _ (by omega)) (fun y hy => up1_n _ _ (by omega)), ⟨md, m1, (up1_n _ _ (by omega)).trans m2⟩, ⟨v, hv', up1_s _ _ _⟩⟩
    rw [A25]
    exact ⟨by rw [up1_n _ _ (by omega), up1_n _ _ (by omega)]; exact w4, by rw [up1_n _ _ (by omega), up1_n _ _ (by omega)]; exact w5, by rw [up1_n _ _ (by omega), up1_n _ _ (by omega)]; exact w6, by rw [up1_s, up1_s], by rw [up1_n _ _ (by omega), up1_n _ _ (by omega)]; exact w8⟩
  · have t0 : tmP 2 = 4 := rfl
    have a0 : tmA 2 = 25 := rfl
    have k0 : tmK 2 = 8 := rfl
    have hv' : v ≤ 9 := hv
    rw [a0, k0, if_pos rfl] at A25
    rw [a0, if_neg (by omega)] at A26
    rw [t0]
    have hq : ∀ j, 5 ≤ j → j < 1754 → up1 p 4 (nI v) j = p j := fun j h1 _ => up1_n _ _ (by omega)
    refine ⟨NeV_c hq iv.q (NeV_a A26 (fun a h1 h2 => C a (by omega)) V), IV_c hq iv, ?_, LW _ (fun y hy => up1_n _ _ (by omega)) (up1_n _ _ (by omega)) (up1_n _ _ (by omega)), SN _ (up1_n _ _ (by omega)) (fun y hy => up1_n _ _ (by omega)), ⟨v, hv', up1_s _ _ _⟩, ⟨sl, s1, (up1_n _ _ (by omega)).trans s2⟩⟩
    rw [A25]
    exact ⟨by rw [up1_n _ _ (by omega), up1_n _ _ (by omega)]; exact w4, by rw [up1_n _ _ (by omega), up1_n _ _ (by omega)]; exact w5, by rw [up1_n _ _ (by omega), up1_n _ _ (by omega)]; exact w6, by rw [up1_n _ _ (by omega), up1_n _ _ (by omega)]; exact w7, by rw [up1_s, up1_s]⟩
theorem op_terms (w v : Int32) : PairOp 2 82 157 [.int w, .int v] := fun d h g => by
  refine x_terms d w v g.1 g.2.2.2.2.2.2.2.2.1 _ (fun c => ⟨_, rfl, ?_⟩) (fun w' v' hw hv ew ev => ⟨_, rfl, ?_⟩)
  · obtain ⟨hM1, ei, ef, -, fin⟩ := rfM 1 (by omega) g
    generalize xrH h (rfV 1) (rfX 1) = h1 at *
    obtain ⟨hM2, ei2, -, kp⟩ := thM hM1
    generalize hh : thH h1 = h2 at *
    exact m_terms d w v hh hM1.1 hM2 _ (fun _ => ⟨rfl, fin h2 kp⟩) (fun a b ha hb ea eb => absurd ⟨a, b, ha, hb, ea, eb⟩ c)
  · have a12 : tmA w' = 26 ∨ tmA w' = 25 := by unfold tmA; split; · exact Or.inl rfl
                                               · exact Or.inr rfl
    have vold : hfi h (tmA w') (tmK w') = hia h 275 (tmP w') := by
      obtain ⟨V, -, ⟨w4, w5, w6, w7, w8⟩, -⟩ := g.2.2.2.1
      rcases (show w' = 0 ∨ w' = 1 ∨ w' = 2 by omega) with rfl | rfl | rfl
      · exact V.2.2.2.2.2.2.2.2.2.2.2.2
      · exact w7
      · exact w8
    rw [vold]
    unfold txH
    have a1 := she_fi h (tmA w') (up1 (hfi h (tmA w')) (tmK w') (nI v'))
    have a2 := hfi_s h (tmA w') (up1 (hfi h (tmA w')) (tmK w') (nI v'))
    have a3 : ∀ a, a ≠ tmA w' → hfi (sFI h (tmA w') (up1 (hfi h (tmA w')) (tmK w') (nI v'))) a = hfi h a := fun a ha => hfi_nn _ _ ha
    have a4 := ia_fi h (tmA w') (up1 (hfi h (tmA w')) (tmK w') (nI v'))
    generalize sFI h (tmA w') (up1 (hfi h (tmA w')) (tmK w') (nI v')) = h1 at *
    have b1 := she_fi h1 40 (up1 (hfi h 40) 3 (nI 0))
    have b2 := hfi_s h1 40 (up1 (hfi h 40) 3 (nI 0))
    have b3 : ∀ a, a ≠ 40 → hfi (sFI h1 40 (up1 (hfi h 40) 3 (nI 0))) a = hfi h1 a := fun a ha => hfi_nn _ _ ha
    have b4 := ia_fi h1 40 (up1 (hfi h 40) 3 (nI 0))
    generalize sFI h1 40 (up1 (hfi h 40) 3 (nI 0)) = h2 at *
    have xw := X2_w h2
    have xwi := (xw_g h2).1
    generalize xwH h2 = h3 at *
    have M3 := xw.1.2.2.2.M (b1.1.2.2.2.M (a1.1.2.2.2.M g.2.1.1))
    have k83 := M3.1
    obtain ⟨M4, ei4, ef4, kp4⟩ := thM M3
    have t3 : ∀ a, a ≠ 273 → hfi (thH h3) a = hfi h3 a := fun a ha => by unfold thH; exact hfi_nn _ _ ha
    have t4 : hja (thH h3) = hja h3 := (she_fi _ _ _).2
    generalize hh : thH h3 = h4 at *
    have I4 : hia h4 = hia h := by rw [ei4, xwi, b4, a4]
    refine m_terms d w v hh k83 M4 _ (fun z => absurd ⟨w', v', hw, hv, ew, ev⟩ z) (fun w2 v2 hw2 hv2 ew2 ev2 => ?_)
    have ml := mx_lt w'
    have ml2 := mx_lt w2
    have e1 : w2 = w' := by
      have z := ew2.symm.trans ew
      rw [eqI (by omega) (by omega)] at z; exact z
    subst e1
    have e2 : v2 = v' := by
      have z := ev2.symm.trans ev
      rw [eqI (by omega) (by omega)] at z; exact z
    subst e2
    rw [I4]
    refine ⟨rfl, ?_⟩
    have c1 := she_fi h4 273 (up1 (hfi h4 273) 8 (nI 0))
    have c2 : ∀ a, a ≠ 273 → hfi (sFI h4 273 (up1 (hfi h4 273) 8 (nI 0))) a = hfi h4 a := fun a ha => hfi_nn _ _ ha
    have c4 := ia_fi h4 273 (up1 (hfi h4 273) 8 (nI 0))
    generalize sFI h4 273 (up1 (hfi h4 273) 8 (nI 0)) = h5 at *
    have d1 := she_ia h5 275 (up1 (hia h 275) (tmP w2) (nI v2))
    have d2 := hia_s h5 275 (up1 (hia h 275) (tmP w2) (nI v2))
    have d3 : ∀ a, a ≠ 275 → hia (sIA h5 275 (up1 (hia h 275) (tmP w2) (nI v2))) a = hia h5 a := fun a ha => hia_n _ _ ha
    have d4 := fi_ia h5 275 (up1 (hia h 275) (tmP w2) (nI v2))
    generalize sIA h5 275 (up1 (hia h 275) (tmP w2) (nI v2)) = h6 at *
    have e1 := she_fi h6 273 (up1 (up1 (hfi h4 273) 8 (nI 0)) 1 (nI 0))
    have e2 := hfi_s h6 273 (up1 (up1 (hfi h4 273) 8 (nI 0)) 1 (nI 0))
    have e3 : ∀ a, a ≠ 273 → hfi (sFI h6 273 (up1 (up1 (hfi h4 273) 8 (nI 0)) 1 (nI 0))) a = hfi h6 a := fun a ha => hfi_nn _ _ ha
    have e4 := ia_fi h6 273 (up1 (up1 (hfi h4 273) 8 (nI 0)) 1 (nI 0))
    generalize sFI h6 273 (up1 (up1 (hfi h4 273) 8 (nI 0)) 1 (nI 0)) = h7 at *
    have SS := she_t (she_t (she_t a1 b1) ⟨xw.1, xw.2.2.2.2⟩) ⟨kp4.1, t4⟩
    have S7 := she_t (she_t (she_t SS c1) d1) e1
    have F7 : ∀ a, a ≠ 24 → a ≠ 40 → a ≠ 273 → hfi h7 a = hfi h1 a := fun a y1 y2 y3 => by rw [e3 a y3, d4, c2 a y3, t3 a y3, xw.2.1 a y1, b3 a y2]
    have C7 : ∀ a, a ≠ 275 → hia h7 a = hia h a := fun a ha => by rw [e4, d3 a ha, c4, I4]
    have r7 : hia h7 275 = up1 (hia h 275) (tmP w2) (nI v2) := by rw [e4, d2]
    refine GI_clr g S7.1 (fun a y1 y2 y3 y4 y5 => by rw [F7 a y1 y4 y5, a3 a (by omega)]) ?_ ?_ (fun k y0 y1 y8 => ?_) ?_ ?_ C7 S7.2 ?_
    · rw [e3 24 (by omega), d4, c2 24 (by omega), t3 24 (by omega), xw.2.2.1, b3 24 (by omega), a3 24 (by omega)]
    · rw [e3 40 (by omega), d4, c2 40 (by omega), t3 40 (by omega), xw.2.1 40 (by omega), b2]
    · rw [e2, up1_n _ _ y1, up1_n _ _ y8, ef4 k y0, xw.2.1 273 (by omega), b3 273 (by omega), a3 273 (by omega)]
    · rw [e2, up1_s]
    · rw [e2, up1_n _ _ (by omega), up1_s]
    · rw [r7]
      refine WV_tm hw hv g.1 g.2.2.2.1 ⟨S7.1.1, S7.1.2.2.2⟩ (fun a ha => ?_) C7
      by_cases q : a = tmA w2
      · rw [if_pos q, F7 a (by omega) (by omega) (by omega), q, a2]
      · rw [if_neg q, F7 a (by omega) (by omega) (by omega), a3 a q]
