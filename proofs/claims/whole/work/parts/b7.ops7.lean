/-! ===== force, gone through ===== -/
theorem op_force_y (x : Int32) (d : Nat) (h : MH) (g : GI h) (c : ∀ nl, hia h 275 1 = nI nl → nl ≤ 6 → isLw x nl) : callD (d + 3) 91 (.ref 24 :: [.int x]) h (fun r h1 => ∃ v, r = some v ∧ callD (d + 3) 192 (.ref 273 :: [.int x]) h1 (fun r2 h2 => r2 = some v ∧ Pst h h2)) := by
  have so := g.1.1
  unfold XSo at so
  have sw := WoS_25 g.1
  unfold WoS at sw
  obtain ⟨k8, r2, r3, r4⟩ := g.2.1.1.row
  obtain ⟨-, -, ⟨w4, w5, w6, w7, w8⟩, ⟨nl, nl6, p1, p2, -⟩, sn, rn, sl⟩ := g.2.2.2.1
  have c := c nl p1 nl6
  have XL := fun Q => x_isLaw (d + 1) x nl6 g.1 (w4.trans p1) Q
  rw [E_Di_force]
  rw [b01_t c] at XL
  have W := fun (h : MH) (s : XS h) v Q => x_went (d + 1) v s Q
  have W1 := W (sFI h 25 (up1 (hfi h 25) 5 x)) (XS_e (KWd_25 h (up1 (hfi h 25) 5 x)).1.2.2.2 g.1)
  simp (disch := omega) only [U_Di_force (cm _), SA, SB, SC1, SC2, SG, SK, SV, so, sw, w5, XL, W1, eqI, Nat.one_ne_zero, true_implies, not_true_eq_false, not_false_eq_true, false_implies, true_and, and_true]
  refine ⟨_, rfl, ?_⟩
  obtain ⟨x1, x2, x3⟩ := xw_g (sFI h 25 (up1 (hfi h 25) 5 x))
  have KW1 : KWd h (xwH (sFI h 25 (up1 (hfi h 25) 5 x))) := (KWd_25 h _).trans (KQ_xw _).W
  have f25 : hfi (xwH (sFI h 25 (up1 (hfi h 25) 5 x))) 25 = up1 (hfi h 25) 5 x := by rw [x3 25 (by omega), hfi_s]
  have f24 : hfi (xwH (sFI h 25 (up1 (hfi h 25) 5 x))) 24 = up1 (hfi h 24) 13 (nI 0) := by rw [x2, hfi_nn _ _ (by omega)]
  have f273 : hfi (xwH (sFI h 25 (up1 (hfi h 25) 5 x))) 273 = hfi h 273 := by rw [x3 273 (by omega), hfi_nn _ _ (by omega)]
  have f213 : hfi (xwH (sFI h 25 (up1 (hfi h 25) 5 x))) 213 = hfi h 213 := by rw [x3 213 (by omega), hfi_nn _ _ (by omega)]
  have ei : hia (xwH (sFI h 25 (up1 (hfi h 25) 5 x))) = hia h := x1.trans rfl
  have hM1 : MoS (xwH (sFI h 25 (up1 (hfi h 25) 5 x))) := KW1.1.2.2.2.M g.2.1.1
  have hcu1 : hcc (xwH (sFI h 25 (up1 (hfi h 25) 5 x))) = hcc h ∧ hcu (xwH (sFI h 25 (up1 (hfi h 25) 5 x))) = hcu h := ⟨KW1.1.2.1, KW1.1.2.2.1⟩
  clear x1 x2 x3 W W1
  generalize xwH (sFI h 25 (up1 (hfi h 25) 5 x)) = h1 at *
  obtain ⟨k81, r21, r31, r41⟩ := hM1.row
  have KT1 := KP_th h1
  have hM2 : MoS (sFI h1 273 (up1 (hfi h1 273) 0 (nI 0))) := KT1.1.2.2.2.M hM1
  have w2 : hia (sFI h1 273 (up1 (hfi h1 273) 0 (nI 0))) 275 1 = nI nl := by have z := KT1.2.2.2.2.1 275 (scr_n (by omega)); unfold thH at z; rw [z, ei]; exact p1
  have ML1 := fun Q => m_isLaw d x nl6 (h := sFI h1 273 (up1 (hfi h1 273) 0 (nI 0))) hM2 w2 Q
  clear KT1
  rw [b01_t c] at ML1
  have i2 : hia h1 275 2 = hia h 275 2 := by rw [ei]
  rw [E_Mo_force]
  simp (disch := omega) only [U_Mo_force (cm _), E_Mo_change, U_Mo_change (cm _), SA, SB, SC1, SC2, SG, SK, SV, SM, up1_s, k81, r21, r31, r41, i2, ML1, nI_clamp, in_eq, Nat.reduceLeDiff, eqI, Nat.one_ne_zero, true_implies, not_true_eq_false, not_false_eq_true, false_implies, true_and, and_true]
  show Pst h (rwH h1 (up1 (hia h1 275) 2 x) (up1 (up1 (hfi h1 273) 0 (nI 0)) 1 (nI 0)))
  obtain ⟨e1, e3, e4, e5⟩ := rw_g h1 (up1 (hia h1 275) 2 x) (up1 (up1 (hfi h1 273) 0 (nI 0)) 1 (nI 0))
  have KK := KW1.trans (KWd_rw h1 (up1 (hia h1 275) 2 x) (up1 (up1 (hfi h1 273) 0 (nI 0)) 1 (nI 0)) (fun k hk => by rw [up1_n _ _ (by omega), up1_n _ _ (by omega)]))
  refine Pst_e ?_ KK.E
  generalize rwH h1 (up1 (hia h1 275) 2 x) (up1 (up1 (hfi h1 273) 0 (nI 0)) 1 (nI 0)) = h2 at *
  rw [ei] at e1
  rw [f273] at e3
  have P : ∀ y, y ≠ 2 → hia h2 275 y = hia h 275 y := fun y hy => by rw [e1, up1_n _ _ hy]
  have P2 : hia h2 275 2 = x := by rw [e1, up1_s]
  have F : ∀ k, k ≠ 5 → hfi h2 25 k = hfi h 25 k := fun k hk => by rw [e4 25 (by omega), f25, up1_n _ _ hk]
  refine GI_kw KK g (CtV_v (nI 0) g.2.2.2.2.2.2.1 (by rw [e5 244 (by omega), ei]) (by rw [e5 274 (by omega), ei]) (by rw [e4 24 (by omega), f24, up1_s]) (by rw [e3, up1_s]) (fun k hk => by rw [e4 24 (by omega), f24, up1_n _ _ (by omega)]) (by rw [e4 213 (by omega), f213]) (fun k hk => by rw [e3, up1_n _ _ (by omega), up1_n _ _ (by omega)])) (fun y h1 _ => P y (by omega)) (fun y h1 => P y (by omega)) (P 1 (by omega)) (fun nl' n6 e _ => ?_) ⟨?_, ?_, ?_, ?_, ?_⟩ ?_ ?_ ?_
  · rw [P2]
    have en : nl' = nl := by
      have z := e.symm.trans p1
      rw [eqI (by omega) (by omega)] at z
      exact z
    rw [en]; exact c
  · rw [P 1 (by omega), F 4 (by omega)]; exact w4
  · rw [P2, e4 25 (by omega), f25, up1_s]
  · rw [P 0 (by omega), F 6 (by omega)]; exact w6
  · rw [P 3 (by omega), F 7 (by omega)]; exact w7
  · rw [P 4 (by omega), F 8 (by omega)]; exact w8
  · obtain ⟨ns, s1, s2, s3⟩ := sn
    refine ⟨ns, s1, (P 0 (by omega)).trans s2, fun i hi => ?_⟩
    rw [P _ (by omega), P _ (by omega), e5 (25 + 12) (by omega), e5 (25 + 13) (by omega), ei]
    exact s3 i hi
  · obtain ⟨md, m1, m2⟩ := rn
    exact ⟨md, m1, (P 4 (by omega)).trans m2⟩
  · obtain ⟨s, s1, s2⟩ := sl
    exact ⟨s, s1, (P 3 (by omega)).trans s2⟩
theorem op_force (x : Int32) : PairOp 3 91 192 [.int x] := fun d h g => by
  obtain ⟨-, -, -, ⟨nl, nl6, p1, -⟩, -⟩ := g.2.2.2.1
  have en : ∀ n, hia h 275 1 = nI n → n ≤ 6 → n = nl := fun n e h6 => by
    have z := e.symm.trans p1
    rw [eqI (by omega) (by omega)] at z
    exact z
  by_cases c : isLw x nl
  · exact op_force_y x d h g (fun n e h6 => by rw [en n e h6]; exact c)
  · exact op_force_n x d h g (fun n e h6 => by rw [en n e h6]; exact c)
