/-! ===== undo ===== -/
theorem x_takesBack (d nx n : Nat) (hnx : nx < 17) (hn : 1 ≤ n ∧ n ≤ 16) {h : MH} {p : RW} (s : XS h) (h2 : hfi h 40 2 = nI nx) (h3 : hfi h 40 3 = nI n) (V : NeV h (43 + 10 * ((nx + 16) % 17)) p) (iv : IV p) (Q : RT) (kk : ∀ h', XN (sFI h 40 (up1 (up1 (hfi h 40) 2 (nI ((nx + 16) % 17))) 3 (nI (n - 1)))) 26 h' p → Q (some (.int (hia h 42 ((nx + 16) % 17)))) h') : callD (d + 2) 4 [.ref 40, .ref 26] h Q := by
  obtain ⟨-, -, sh, -, -, sn, sr, -⟩ := id s
  unfold XSh at sh
  have lt : (nx + 16) % 17 < 17 := Nat.mod_lt _ (by omega)
  obtain ⟨r1, r2⟩ := sr ((nx + 16) % 17) lt
  have md : nI (nx + 16) - nI (nx + 16) / nI 17 * nI 17 = nI ((nx + 16) % 17) := nI_mod (by omega) (by omega)
  have e4 := she_fi h 40 (up1 (up1 (hfi h 40) 2 (nI ((nx + 16) % 17))) 3 (nI (n - 1)))
  have f40 : hfi (sFI h 40 (up1 (up1 (hfi h 40) 2 (nI ((nx + 16) % 17))) 3 (nI (n - 1)))) 40 2 = nI ((nx + 16) % 17) := by rw [hfi_s, up1_n _ _ (by omega), up1_s]
  have s' : XS (sFI h 40 (up1 (up1 (hfi h 40) 2 (nI ((nx + 16) % 17))) 3 (nI (n - 1)))) := XS_e e4.1.2.2.2 s
  have V' : NeV (sFI h 40 (up1 (up1 (hfi h 40) 2 (nI ((nx + 16) % 17))) 3 (nI (n - 1)))) (43 + 10 * ((nx + 16) % 17)) p := NeV_a (hfi_nn _ _ (by omega)) (fun a _ _ => by rw [ia_fi]) V
  have i42 : hia (sFI h 40 (up1 (up1 (hfi h 40) 2 (nI ((nx + 16) % 17))) 3 (nI (n - 1)))) 42 = hia h 42 := by rw [ia_fi]
  rw [E_Hi_takesBack]
  have q0 : up1 (hfi h 40) 2 (nI ((nx + 16) % 17)) 3 = nI n := by rw [up1_n _ _ (by omega)]; exact h3
  have q2 : up1 (up1 (hfi h 40) 2 (nI ((nx + 16) % 17))) 3 (nI (n - 1)) 2 = nI ((nx + 16) % 17) := by rw [up1_n _ _ (by omega), up1_s]
  generalize hm : (nx + 16) % 17 = m at *
  simp (disch := omega) only [U_Hi_takesBack (cm _), SA, SB, SC1, SC2, SG, SK, SV, up1_s, sh, h2, h3, q0, q2, r2, nI_add, pk_sub, show nx + 17 - 1 = nx + 16 by omega, md, nI_clamp, in_eq, Nat.reduceLeDiff, true_implies, not_true_eq_false, not_false_eq_true, false_implies, true_and, and_true]
  refine ⟨by decide, sn.1.1, ?_⟩
  generalize sFI h 40 (up1 (up1 (hfi h 40) 2 (nI m)) 3 (nI (n - 1))) = h1 at *
  have sr' := (s'.2.2.2.2.2.2.1 m lt).1
  have sn' := s'.2.2.2.2.2.1.1
  refine y_copies d (43 + 10 * m) 26 (by omega) sr' V' sn' ⟨iv.q.1, by have := iv.q.2; omega⟩ _ (fun h' xn => ?_)
  have SE := xn.1.e
  have sh' := (XS_e SE s').2.2.1
  unfold XSh at sh'
  have f2 : hfi h' 40 2 = nI m := by rw [xn.1.2.1 40 (by omega)]; exact f40
  have i2 : hia h' 42 m = hia h 42 m := by rw [xn.1.2.2 42 (by omega), i42]
  have Y := kk h' xn
  simp (disch := omega) only [U_Hi_takesBack (cm _), SA, SB, SC1, SC2, SG, SK, SV, sh', f2, i2, nI_clamp, in_eq, Nat.reduceLeDiff, true_implies, not_true_eq_false, not_false_eq_true, false_implies, true_and, and_true]
  exact Y
theorem op_undo : PairOp 3 95 139 [] := fun d h g => by
  obtain ⟨nx, n, r⟩ := g.2.2.2.2.1
  obtain ⟨V, iv, -⟩ := g.2.2.2.1
  have r' := r
  obtain ⟨r1, r2, r3, r4, r5, r6⟩ := r
  have so := g.1.1
  unfold XSo at so
  have sh := g.1.2.2.1
  unfold XSh at sh
  have sw := WoS_25 g.1
  unfold WoS at sw
  simp only [Nat.reduceAdd] at sw
  rw [E_Di_undo]
  by_cases n0 : n = 0
  · subst n0
    have R := fun Q => x_refused (d + 1) 3 (by omega) g.1 Q
    have e3 : rfV 3 = -3 := by decide
    obtain ⟨hM1, ei, ef, -, fin⟩ := rfM 3 (by omega) g
    rw [e3] at R hM1 ei ef fin
    generalize xrH h (-3) (rfX 3) = h1 at *
    simp (disch := omega) only [U_Di_undo (cm _), SA, SB, SC1, SC2, SG, SK, SV, so, sh, r4, R, eqI, true_implies, not_true_eq_false, not_false_eq_true, false_implies, true_and, and_true]
    refine ⟨_, rfl, ?_⟩
    have k81 := hM1.1
    obtain ⟨hM2, ei2, ef2, kp⟩ := thM hM1
    have f8 : hfi (thH h1) 273 8 = nI 0 := by rw [ef2 8 (by omega), ef]; exact r5
    generalize hh : thH h1 = h2 at *
    unfold thH at hh
    have k82 := hM2.1
    have T := fun Q => m_tellR (d + 1) 3 (by omega) hM2 Q
    rw [e3] at T
    have Y := fin h2 kp
    generalize tnH h2 (-3) 3 = h9 at *
    rw [E_Mo_undo]
    simp (disch := omega) only [U_Mo_undo (cm _), SA, SB, SC1, SC2, SG, SK, SV, hh, k81, k82, f8, T, eqI, true_implies, not_true_eq_false, not_false_eq_true, false_implies, true_and, and_true]
    exact Y
  · have pl : rgP nx n (n - 1) = (nx + 16) % 17 := by unfold rgP; congr 1; omega
    obtain ⟨x1, x2, x3, kd, kd3, x4⟩ := r6 (n - 1) (by omega)
    rw [pl] at x1 x3
    have TB := fun Q kk => x_takesBack (d + 0) nx n r1 (by omega) g.1 r3 r4 x1 x2 Q kk
    have n0' : ¬ n = 0 := n0
    simp (disch := omega) only [U_Di_undo (cm _), SA, SB, SC1, SC2, SG, SK, SV, so, sh, sw, r4, eqI, n0', true_implies, not_true_eq_false, not_false_eq_true, false_implies, true_and, and_true]
    refine TB _ (fun h1 xn => ?_)
    clear TB
    have e40 := she_fi h 40 (up1 (up1 (hfi h 40) 2 (nI ((nx + 16) % 17))) 3 (nI (n - 1)))
    have f40 := hfi_s h 40 (up1 (up1 (hfi h 40) 2 (nI ((nx + 16) % 17))) 3 (nI (n - 1)))
    have f4n : ∀ a, a ≠ 40 → hfi (sFI h 40 (up1 (up1 (hfi h 40) 2 (nI ((nx + 16) % 17))) 3 (nI (n - 1)))) a = hfi h a := fun a ha => hfi_nn _ _ ha
    have i4 := ia_fi h 40 (up1 (up1 (hfi h 40) 2 (nI ((nx + 16) % 17))) 3 (nI (n - 1)))
    generalize sFI h 40 (up1 (up1 (hfi h 40) 2 (nI ((nx + 16) % 17))) 3 (nI (n - 1))) = h0 at *
    obtain ⟨nf, -, V1⟩ := xn
    have SE : SHE h h1 := e40.1.2.2.2.trans nf.e
    have s1 := XS_e SE g.1
    have M1 := SE.M g.2.1.1
    have W := fun Q => x_went (d + 1) (hia h 42 ((nx + 16) % 17)) s1 Q
    have xw := X2_w h1
    have xwi := (xw_g h1).1
    have k71 := s1.1.1
    generalize xwH h1 = h2 at *
    simp (disch := omega) only [U_Di_undo (cm _), SA, SB, SC1, SC2, SG, SK, SV, k71, W, true_and]
    refine ⟨_, rfl, ?_⟩
    rw [x3, x4]
    have M2 := xw.1.2.2.2.M M1
    obtain ⟨hM3, ei3, ef3, kp⟩ := thM M2
    have k82 := M2.1
    have t3 : ∀ a, a ≠ 273 → hfi (thH h2) a = hfi h2 a := fun a ha => by unfold thH; exact hfi_nn _ _ ha
    have t4 : hja (thH h2) = hja h2 := (she_fi _ _ _).2
    generalize hh : thH h2 = h3 at *
    unfold thH at hh
    have F1 : ∀ a, a ≠ 24 → a ≠ 26 → a ≠ 40 → a ≠ 273 → hfi h3 a = hfi h a := fun a z1 z2 z3 z4 => by rw [t3 a z4, xw.2.1 a z1, nf.2.1 a z2, f4n a z3]
    have C1 : ∀ a, (a ≤ 26 ∨ 35 < a) → a ≠ 244 → hia h3 a = hia h a := fun a z1 z2 => by rw [ei3, xw.2.2.2.1 a z2, nf.2.2 a z1, i4]
    have F2 : ∀ k, k ≠ 0 → hfi h3 273 k = hfi h 273 k := fun k z => by rw [ef3 k z, xw.2.1 273 (by omega), nf.2.1 273 (by omega), f4n 273 (by omega)]
    have f8 : hfi h3 273 8 = nI n := (F2 8 (by omega)).trans r5
    have k83 := hM3.1
    have b1 := she_fi h3 273 (up1 (hfi h3 273) 8 (nI (n - 1)))
    have b2 := hfi_s h3 273 (up1 (hfi h3 273) 8 (nI (n - 1)))
    have b3 : ∀ a, a ≠ 273 → hfi (sFI h3 273 (up1 (hfi h3 273) 8 (nI (n - 1)))) a = hfi h3 a := fun a ha => hfi_nn _ _ ha
    have b4 := ia_fi h3 273 (up1 (hfi h3 273) 8 (nI (n - 1)))
    generalize hb : sFI h3 273 (up1 (hfi h3 273) 8 (nI (n - 1))) = h3b at *
    have hMb := b1.1.2.2.2.M hM3
    have b8 : hfi h3b 273 8 = nI (n - 1) := by rw [b2, up1_s]
    have kb := hMb.1
    have PB := fun Q => e_putBack (d + 1) (n - 1) (by omega) hMb Q
    have c1 := she_ia h3b 275 (cpyF (hia h3b 275) (hia h3b 278) 5 (1749 * (n - 1)) 1749 0)
    have c2 := hia_s h3b 275 (cpyF (hia h3b 275) (hia h3b 278) 5 (1749 * (n - 1)) 1749 0)
    have c3 : ∀ a, a ≠ 275 → hia (sIA h3b 275 (cpyF (hia h3b 275) (hia h3b 278) 5 (1749 * (n - 1)) 1749 0)) a = hia h3b a := fun a ha => hia_n _ _ ha
    have c4 := fi_ia h3b 275 (cpyF (hia h3b 275) (hia h3b 278) 5 (1749 * (n - 1)) 1749 0)
    generalize sIA h3b 275 (cpyF (hia h3b 275) (hia h3b 278) 5 (1749 * (n - 1)) 1749 0) = h4 at *
    rw [b4, C1 275 (by omega) (by omega), C1 278 (by omega) (by omega)] at c2
    have hM4 := c1.1.2.2.2.M hMb
    have k84 := hM4.1
    have g8 : hfi h4 273 8 = nI (n - 1) := by rw [c4]; exact b8
    obtain ⟨-, -, -, -, -, -, ⟨s1', s2', s3'⟩, -⟩ := id hM4
    have i279 : hia h4 279 (n - 1) = nI kd := by rw [c3 279 (by omega), b4, C1 279 (by omega) (by omega)]; exact x4
    have TP := fun Q => m_tellP (d + 1) kd (by omega) hM4 Q
    have m5 := M5_w h4
    have tpi := (tp_g h4).2
    generalize tpH h4 = h5 at *
    have Y : Pst h h5 := by
      have SS : SHE h h5 := ((((SE.trans xw.1.2.2.2).trans kp.1.2.2.2).trans b1.1.2.2.2).trans c1.1.2.2.2).trans m5.1.2.2.2
      have FI : ∀ a, a ≠ 24 → a ≠ 26 → a ≠ 40 → a ≠ 273 → hfi h5 a = hfi h a := fun a z1 z2 z3 z4 => by rw [m5.2.1 a z4, c4, b3 a z4, F1 a z1 z2 z3 z4]
      have CI : ∀ a, (a ≤ 26 ∨ 35 < a) → a ≠ 244 → a ≠ 274 → a ≠ 275 → hia h5 a = hia h a := fun a y1 z4 z5 z6 => by rw [m5.2.2.2.1 a z5, c3 a z6, b4, C1 a y1 z4]
      have i244 : hia h5 244 = hia h 244 := by rw [tpi, c3 244 (by omega), b4, ei3, xwi, nf.2.2 244 (by omega), i4]
      have i274 : hia h5 274 = hia h 274 := by rw [tpi, c3 274 (by omega), b4, ei3, xwi, nf.2.2 274 (by omega), i4]
      have f273 : ∀ k, k ≠ 0 → k ≠ 1 → k ≠ 8 → hfi h5 273 k = hfi h 273 k := fun k z0 z1 z2 => by rw [m5.2.2.1, up1_n _ _ z1, c4, b2, up1_n _ _ z2, F2 k z0]
      have f24 : hfi h5 24 = up1 (hfi h 24) 13 (nI 0) := by rw [m5.2.1 24 (by omega), c4, b3 24 (by omega), t3 24 (by omega), xw.2.2.1, nf.2.1 24 (by omega), f4n 24 (by omega)]
      have G40 : hfi h5 40 = up1 (up1 (hfi h 40) 2 (nI ((nx + 16) % 17))) 3 (nI (n - 1)) := by rw [m5.2.1 40 (by omega), c4, b3 40 (by omega), t3 40 (by omega), xw.2.1 40 (by omega), nf.2.1 40 (by omega), f40]
      have q0 : hia h5 275 = cpyF (hia h 275) (hia h 278) 5 (1749 * (n - 1)) 1749 0 := by rw [tpi, c2]
      have row : ∀ x, 5 ≤ x → x < 1754 → cpyF (hia h 275) (hia h 278) 5 (1749 * (n - 1)) 1749 0 x = uR (hia h 278) (n - 1) x := fun x y1 y2 => by
        unfold cpyF uR
        rw [if_pos (by omega)]
      have V5 : NeV h5 26 (uR (hia h 278) (n - 1)) := NeV_a (by rw [m5.2.1 26 (by omega), c4, b3 26 (by omega), t3 26 (by omega), xw.2.1 26 (by omega)]) (fun a y1 y2 => by rw [tpi, c3 a (by omega), b4, ei3, xwi]) V1
      have rg : RgV h5 ((nx + 16) % 17) (n - 1) := by
        refine ⟨Nat.mod_lt _ (by omega), by omega, by rw [G40, up1_n _ _ (by omega), up1_s], by rw [G40, up1_s], by rw [m5.2.2.1, up1_n _ _ (by omega)]; exact g8, fun j hj => ?_⟩
        have pj : rgP ((nx + 16) % 17) (n - 1) j = rgP nx n j := by unfold rgP; omega
        have lt := rgP_lt nx n j
        obtain ⟨y1, y2, y3, y4⟩ := r6 j (by omega)
        rw [pj, CI 278 (by omega) (by omega) (by omega) (by omega), CI 279 (by omega) (by omega) (by omega) (by omega), CI 42 (by omega) (by omega) (by omega) (by omega)]
        exact ⟨NeV_a (FI _ (by omega) (by omega) (by omega) (by omega)) (fun a z1 z2 => CI a (by omega) (by omega) (by omega) (by omega)) y1, y2, y3, y4⟩
      have ct : CtV h5 := CtV_v (nI 0) g.2.2.2.2.2.2.1 i244 i274 (by rw [f24, up1_s]) (by rw [m5.2.2.1, up1_s]) (fun k hk => by rw [f24, up1_n _ _ (by omega)]) (by rw [FI 213 (by omega) (by omega) (by omega) (by omega)]) (fun k hk => f273 k (by omega) (by omega) (by omega))
      refine Pst_e (GI_act r1 g rfl ⟨?_, SS⟩ (fun a z1 z2 z3 z4 _ => FI a z1 z2 z3 z4) ⟨by rw [f24, up1_n _ _ (by omega)], by rw [f24, up1_n _ _ (by omega)]⟩ ⟨f273 13 (by omega) (by omega) (by omega), f273 52 (by omega) (by omega) (by omega)⟩ (fun a y1 _ _ _ _ z4 z5 z6 _ _ => CI a y1 z4 z5 z6) (fun a _ => by rw [m5.2.2.2.2, c1.2, b1.2, t4, xw.2.2.2.2]; exact congrFun (nf.1.2.2.2.2.2.2.2.1.trans e40.2) a) q0 (NeV_c row x2.q V5) (IV_c row x2) (fun j hj => by unfold cpyF; rw [if_neg (by omega)]) ⟨_, _, rg⟩ ct) ⟨⟨?_, ?_, ?_, SS⟩, CI 0 (by omega) (by omega) (by omega) (by omega)⟩
      · rw [m5.1.1, c1.1.1, b1.1.1, kp.1.1, xw.1.1, nf.1.1, e40.1.1]
      · rw [m5.1.1, c1.1.1, b1.1.1, kp.1.1, xw.1.1, nf.1.1, e40.1.1]
      · rw [m5.1.2.1, c1.1.2.1, b1.1.2.1, kp.1.2.1, xw.1.2.1, nf.1.2.1, e40.1.2.1]
      · rw [m5.1.2.2.1, c1.1.2.2.1, b1.1.2.2.1, kp.1.2.2.1, xw.1.2.2.1, nf.1.2.2.1, e40.1.2.2.1]
    rw [E_Mo_undo]
    simp (disch := omega) only [U_Mo_undo (cm _), SA, SB, SC1, SC2, SG, SK, SV, hh, hb, k82, k83, kb, k84, f8, b8, g8, n0', s1', s2', s3', i279, PB, TP, pk_sub, eqI, nI_clamp, in_eq, Nat.reduceLeDiff, true_implies, not_true_eq_false, not_false_eq_true, false_implies, true_and, and_true]
    exact Y
