/-! ===== a net is made: the whole ===== -/
theorem x_newNet (d q : Nat) {h : MH} (k2 : hkd h q = 2) (hq : q + 1 = hsz h) (h24 : 24 ≤ q) (f0 : hfi h q = fun _ => 0) (Q : RT) (K : ∀ H, Inw h H q 9 560 → NeS H q → NeV H q ini → Q none H) : callD (d + 2) 16 [.ref q] h Q := by
  have hq' := hq
  replace hq : q < hsz h := by omega
  rw [E_Ne_init]
  refine x_nn1 d q hq _ (fun H9 A9 k9 z9 => ?_) h (AA.nil h q) k2 rfl rfl rfl
  obtain ⟨w1, w2, w3, w4, w5⟩ := A9
  have fi9 : hfi H9 q = fun _ => 0 := by rw [(w2 q hq).2.2.1]; exact f0
  have hs9 : hsz H9 = q + 10 := by omega
  have a0 : (hfr H9 q 0 = some (q + 1) ∧ hkd H9 (q + 1) = 20 ∧ hln H9 (q + 1) = 49) ∧ hia H9 (q + 1) = (fun _ => 0) := by
    have t := w5 0 (0, 20, 49) rfl
    rw [← hq'] at t
    exact ⟨⟨t.1, t.2.1, t.2.2.1⟩, t.2.2.2.1⟩
  have a1 : (hfr H9 q 1 = some (q + 2) ∧ hkd H9 (q + 2) = 20 ∧ hln H9 (q + 2) = 49) ∧ hia H9 (q + 2) = (fun _ => 0) := by
    have t := w5 1 (1, 20, 49) rfl
    rw [← hq'] at t
    exact ⟨⟨t.1, t.2.1, t.2.2.1⟩, t.2.2.2.1⟩
  have a2 : (hfr H9 q 2 = some (q + 3) ∧ hkd H9 (q + 3) = 20 ∧ hln H9 (q + 3) = 7) ∧ hia H9 (q + 3) = (fun _ => 0) := by
    have t := w5 2 (2, 20, 7) rfl
    rw [← hq'] at t
    exact ⟨⟨t.1, t.2.1, t.2.2.1⟩, t.2.2.2.1⟩
  have a3 : (hfr H9 q 3 = some (q + 4) ∧ hkd H9 (q + 4) = 20 ∧ hln H9 (q + 4) = 7) ∧ hia H9 (q + 4) = (fun _ => 0) := by
    have t := w5 3 (3, 20, 7) rfl
    rw [← hq'] at t
    exact ⟨⟨t.1, t.2.1, t.2.2.1⟩, t.2.2.2.1⟩
  have a4 : (hfr H9 q 4 = some (q + 5) ∧ hkd H9 (q + 5) = 20 ∧ hln H9 (q + 5) = 7) ∧ hia H9 (q + 5) = (fun _ => 0) := by
    have t := w5 4 (4, 20, 7) rfl
    rw [← hq'] at t
    exact ⟨⟨t.1, t.2.1, t.2.2.1⟩, t.2.2.2.1⟩
  have a5 : (hfr H9 q 5 = some (q + 6) ∧ hkd H9 (q + 6) = 20 ∧ hln H9 (q + 6) = 7) ∧ hia H9 (q + 6) = (fun _ => 0) := by
    have t := w5 5 (5, 20, 7) rfl
    rw [← hq'] at t
    exact ⟨⟨t.1, t.2.1, t.2.2.1⟩, t.2.2.2.1⟩
  have a6 : (hfr H9 q 6 = some (q + 7) ∧ hkd H9 (q + 7) = 20 ∧ hln H9 (q + 7) = 7) ∧ hia H9 (q + 7) = (fun _ => 0) := by
    have t := w5 6 (6, 20, 7) rfl
    rw [← hq'] at t
    exact ⟨⟨t.1, t.2.1, t.2.2.1⟩, t.2.2.2.1⟩
  have a7 : (hfr H9 q 7 = some (q + 8) ∧ hkd H9 (q + 8) = 20 ∧ hln H9 (q + 8) = 7) ∧ hia H9 (q + 8) = (fun _ => 0) := by
    have t := w5 7 (7, 20, 7) rfl
    rw [← hq'] at t
    exact ⟨⟨t.1, t.2.1, t.2.2.1⟩, t.2.2.2.1⟩
  have a8 : (hfr H9 q 8 = some (q + 9) ∧ hkd H9 (q + 9) = 20 ∧ hln H9 (q + 9) = 420) ∧ hia H9 (q + 9) = (fun _ => 0) := by
    have t := w5 8 (8, 20, 420) rfl
    rw [← hq'] at t
    exact ⟨⟨t.1, t.2.1, t.2.2.1⟩, t.2.2.2.1⟩
  have S9 : NeS H9 q := ⟨k9, a0.1, a1.1, a2.1, a3.1, a4.1, a5.1, a6.1, a7.1, a8.1, h24⟩
  have B9 : ∀ x, x < hsz h → x ≠ q → Kp h H9 x ∧ hfr H9 x = hfr h x := fun x hx ne => ⟨w2 x hx, w3 x hx ne⟩
  replace a0 := a0.2
  replace a1 := a1.2
  replace a2 := a2.2
  replace a3 := a3.2
  replace a4 := a4.2
  replace a5 := a5.2
  replace a6 := a6.2
  replace a7 := a7.2
  replace a8 := a8.2
  clear w1 w2 w3 w4 w5
  refine x_nn2 d q h24 S9 _ _ (fun G6 nf => ?_)
  obtain ⟨NN, fG, I, V2, V4, V5, V6⟩ := nf
  have sc := sc_g G6 (hcc h + 9) (hcu h + 560)
  generalize sCC G6 (hcc h + 9) (hcu h + 560) = F at *
  obtain ⟨⟨sc1, sc2, sc3, sc4, sc5⟩, sc6, sc7⟩ := sc
  rw [← sc4] at V2 V4 V5 V6
  simp only [← sc4] at I
  have V1 : ∀ x, hia F (q + 1) x = nI 0 := fun x => by rw [I 1 (by omega) (by omega) (by omega) (by omega) (by omega) (by omega), a0]; exact z32
  have V3 : ∀ x, hia F (q + 3) x = nI 0 := fun x => by rw [I 3 (by omega) (by omega) (by omega) (by omega) (by omega) (by omega), a2]; exact z32
  have V7 : ∀ x, hia F (q + 7) x = nI 0 := fun x => by rw [I 7 (by omega) (by omega) (by omega) (by omega) (by omega) (by omega), a6]; exact z32
  have V8 : ∀ x, hia F (q + 8) x = nI 0 := fun x => by rw [I 8 (by omega) (by omega) (by omega) (by omega) (by omega) (by omega), a7]; exact z32
  have V0 : ∀ x, hfi F q x = nI 0 := fun x => by rw [sc3, fG, fi9]; exact z32
  refine K F ⟨⟨by rw [sc1, NN.1.1]; exact z9, sc6, sc7⟩, fun x hx ne => ?_⟩ (NeS_e sc2 (NN.S S9)) (NeV_ini V1 V2 V3 V4 V5 V6 V7 V8 V0)
  obtain ⟨b1, b2⟩ := B9 x hx ne
  obtain ⟨b3, b4⟩ := NN.K x (by omega)
  have b5 : Kp G6 F x := ⟨by rw [sc2.1], by rw [sc2.2.1], by rw [sc3], by rw [sc4], by rw [sc5], by rw [sc2.2.2.2]⟩
  exact ⟨(b1.trans b3).trans b5, by rw [sc2.2.2.1, b4, b2]⟩
