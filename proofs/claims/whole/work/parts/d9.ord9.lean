/-! ===== orders: the reference whole ===== -/
theorem m_orders (d : Nat) {T : TP} {Lo : Option LWS} {h : MH} {p : RW} {g0 : RGy} (hM : MoS h) (hw : WDM h) (hd : HDM h) (hb : TB (hia h 282) T) (h13 : hfi h 273 13 = nI T.2) (hp : hia h 275 = p) (iv : IV p) (fo : FO p Lo) (rn : RN p) (rg : RgM h g0) (Q : RT)
    (KE : ∀ e, pTx T 1 12 0 0 = .error e → ∀ F, MOE h F → hfi F 273 1 = -6 → hfi F 273 13 = nI 0 → hfi F 273 20 = nI 0 → hfi F 273 18 = nI e → hfi F 273 48 = -1 → hia F 275 = p → hia F 274 = up1 (hia h 274) 6 (hia h 274 6 + nI 1) → RgM F g0 → Q (some (.int (-6))) F)
    (KF : ∀ cs, pTx T 1 12 0 0 = .ok cs → ∀ k, oR Lo cs cs.length 0 (p, 0, -1, g0) = .error k → ∀ F, MOE h F → hfi F 273 1 = -3 → hfi F 273 13 = nI 0 → hfi F 273 20 = nI 0 → hfi F 273 18 = -1 → hfi F 273 48 = nI k → (∀ j, 5 ≤ j → j < 1754 → hia F 275 j = p j) → LO p (hia F 275) → hia F 274 = up1 (hia h 274) 3 (hia h 274 3 + nI 1) → RgM F g0 → Q (some (.int (-3))) F)
    (KS : ∀ cs, pTx T 1 12 0 0 = .ok cs → ∀ s', oR Lo cs cs.length 0 (p, 0, -1, g0) = .ok s' → ∀ F, MOE h F → hfi F 273 1 = nI 0 → hfi F 273 13 = nI 0 → hfi F 273 20 = nI 0 → hfi F 273 18 = -1 → hfi F 273 48 = -1 → hia F 275 = s'.1 → OI p 240 s' → hia F 274 = hia h 274 → RgM F s'.2.2.2 → Q (some (.int (nI s'.2.1))) F) : callD (d + 12) 240 [.ref 273] h Q := by
  have k8 := hM.1
  have as := she_fi h 273 (up1 (up1 (hfi h 273) 0 (nI 0)) 48 (-1))
  obtain ⟨-, a2, -, a4, a5⟩ := fi_g h 273 (up1 (up1 (hfi h 273) 0 (nI 0)) 48 (-1))
  have E1 : MOE h (sFI h 273 (up1 (up1 (hfi h 273) 0 (nI 0)) 48 (-1))) := MOE_f _ (fun k a b => by rw [up1_n _ _ (by omega), up1_n _ _ (by omega)])
  rw [E_Mo_orders]
  simp (disch := omega) only [UC_Mo_orders_10 (cm _), SA, SB, SC1, SC2, SG, SK, SV, k8, up1_s, true_or, or_true, true_implies, not_true_eq_false, not_false_eq_true, false_implies, true_and, and_true]
  generalize sFI h 273 (up1 (up1 (hfi h 273) 0 (nI 0)) 48 (-1)) = h1 at *
  have M1 := as.1.2.2.2.M hM
  refine m_or10 (d + 1) (T := T) (h := h1) M1 (WDM_a (fun a _ => by rw [as.2]) hw) (HDM_a (fun a _ => by rw [as.2]) hd) (by rw [a2]; exact hb) (by rw [a4, up1_n _ _ (by omega), up1_n _ _ (by omega)]; exact h13) _ _ ?_
  have f48 : hfi h1 273 48 = -1 := by rw [a4, up1_s]
  have rg1 : RgM h1 g0 := RgM_c (by rw [a4, up1_n _ _ (by omega), up1_n _ _ (by omega)]) a2 rg
  have hp1 : hia h1 275 = p := by rw [a2]; exact hp
  have i741 : hia h1 274 = hia h 274 := by rw [a2]
  clear a2 a4 a5 as rg hp hb h13 hw hd k8 hM
  cases hpt : pTx T 1 12 0 0 with
  | error e =>
    have KE := KE e hpt
    clear KF KS
    intro h2 m2 e19 e18 e13 e20
    have hM2 : MoS h2 := m2.1.2.2.2.1.M M1
    have k82 := hM2.1
    have TN := fun Q => m_tellN (d + 10) 6 (by omega) (v := -6) (by decide) (by decide) hM2 Q
    obtain ⟨g1, g2, g3⟩ := tn_g h2 (-6) 6
    have rg2 : RgM h2 g0 := RgM_k (m2.2.2.2.1 8 (by omega)) (fun x _ => by rw [m2.2.2.1 278 (by omega) (by omega)]) (fun x _ => by rw [m2.2.2.1 279 (by omega) (by omega)]) rg1
    have Y := KE _ ((E1.trans m2.L.E).trans (MLF_tn h2 (-6) 6).E) (by rw [g1, up1_s]) (by rw [g1, up1_n _ _ (by omega)]; exact e13) (by rw [g1, up1_n _ _ (by omega)]; exact e20) (by rw [g1, up1_n _ _ (by omega)]; exact e18) (by rw [g1, up1_n _ _ (by omega), m2.2.2.2.1 48 (by omega)]; exact f48) (by rw [g3 275 (by omega), m2.2.2.1 275 (by omega) (by omega)]; exact hp1) (by rw [g2, m2.2.2.1 274 (by omega) (by omega), i741]) (RgM_k (by rw [g1, up1_n _ _ (by omega)]) (fun x _ => by rw [g3 278 (by omega)]) (fun x _ => by rw [g3 279 (by omega)]) rg2)
    generalize tnH h2 (-6) 6 = h9 at *
    simp (disch := omega) only [U_Mo_orders (cm _), SA, SB, SC1, SC2, SG, SK, SV, k82, e19, TN, eqI, Nat.one_ne_zero, true_or, or_true, true_implies, not_true_eq_false, not_false_eq_true, false_implies, true_and, and_true]
    exact Y
  | ok cs =>
    have KF := KF cs hpt
    have KS := KS cs hpt
    clear KE
    obtain ⟨n1, n12⟩ := pTx_ne 12 0 0 hpt
    intro h2 cf nc m2 e19 e18 e13 e20 e21 e23 ec cv hnc mc
    rw [List.nil_append] at e21 mc
    have hM2 : MoS h2 := m2.1.2.2.2.1.M M1
    have k82 := hM2.1
    have E2 := E1.trans m2.L.E
    have rg2 : RgM h2 g0 := RgM_k (m2.2.2.2.1 8 (by omega)) (fun x _ => by rw [m2.2.2.1 278 (by omega) (by omega)]) (fun x _ => by rw [m2.2.2.1 279 (by omega) (by omega)]) rg1
    have f482 : hfi h2 273 48 = -1 := (m2.2.2.2.1 48 (by omega)).trans f48
    have hp2 : hia h2 275 = p := (m2.2.2.1 275 (by omega) (by omega)).trans hp1
    have i742 : hia h2 274 = hia h 274 := (m2.2.2.1 274 (by omega) (by omega)).trans i741
    clear m2 f48 rg1 hp1 i741 E1 M1
    simp (disch := omega) only [UC_Mo_orders_118_147 (cm _), SA, SB, SC1, SC2, SG, SK, SV, k82, e19, true_or, or_true, true_implies, not_true_eq_false, not_false_eq_true, false_implies, true_and, and_true]
    refine m_keepOrders (d + 9) hM2 _ (fun h3 ko => ?_)
    have hM3 := ko.1.1.2.2.2.M hM2
    have k83 := hM3.1
    have as := she_fi h3 273 (up1 (up1 (hfi h3 273) 46 (nI 0)) 47 (-1))
    obtain ⟨-, a2, -, a4, a5⟩ := fi_g h3 273 (up1 (up1 (hfi h3 273) 46 (nI 0)) 47 (-1))
    have E4 : MOE h3 (sFI h3 273 (up1 (up1 (hfi h3 273) 46 (nI 0)) 47 (-1))) := MOE_f _ (fun k a b => by rw [up1_n _ _ (by omega), up1_n _ _ (by omega)])
    simp (disch := omega) only [UC_Mo_orders_118_147 (cm _), SA, SB, SC1, SC2, SG, SK, SV, k83, up1_s, true_or, or_true, true_implies, not_true_eq_false, not_false_eq_true, false_implies, true_and, and_true]
    generalize sFI h3 273 (up1 (up1 (hfi h3 273) 46 (nI 0)) 47 (-1)) = h4 at *
    have E4 := (E2.trans ko.E).trans E4
    have M4 := as.1.2.2.2.M hM3
    have F4 : ∀ k, k ≠ 46 → k ≠ 47 → hfi h4 273 k = hfi h2 273 k := fun k x y => by rw [a4, up1_n _ _ y, up1_n _ _ x, ko.2.1]
    have I4 : ∀ a, a ≠ 278 → a ≠ 280 → a ≠ 281 → hia h4 a = hia h2 a := fun a x y z => by rw [a2]; exact ko.2.2.1 a x y z
    have f464 : hfi h4 273 46 = nI 0 := by rw [a4, up1_n _ _ (by omega), up1_s]
    have f474 : hfi h4 273 47 = iI (-1) := by rw [a4, up1_s, iI_m1]
    have hp4 : hia h4 275 = p := (I4 275 (by omega) (by omega) (by omega)).trans hp2
    have rg4 : RgM h4 g0 := RgM_k (F4 8 (by omega) (by omega)) (fun x hx => by rw [a2]; exact ko.2.2.2.1 x (by omega)) (fun x _ => by rw [I4 279 (by omega) (by omega) (by omega)]) rg2
    have s4 : ∀ j, 5 ≤ j → j < 1754 → hia h4 278 (29733 + (j - 5)) = p j := fun j x y => by rw [a2, ko.2.2.2.2.1 (j - 5) (by omega), hp2, show 5 + (j - 5) = j by omega]
    have u4 : ∀ x, x < 27984 → hia h4 280 x = hia h2 278 x := fun x hx => by rw [a2]; exact ko.2.2.2.2.2.1 x hx
    have o4 : ∀ x, x < 16 → hia h4 281 x = hia h2 279 x := fun x hx => by rw [a2]; exact ko.2.2.2.2.2.2 x hx
    have RI0 : RIm h4 p (20 * 0) h4 (p, 0, -1, g0) := ⟨MOy.refl h4, ⟨iv, fun _ _ => rfl, by show 0 ≤ _; omega, ⟨by show (-1 : Int) ≤ -1; omega, by show (-1 : Int) ≤ 10000; omega⟩, rg2.1⟩, hp4, rg4, f464, f474⟩
    refine m_l_oc d nc hnc n12 M4 ((F4 20 (by omega) (by omega)).trans e20) ((F4 21 (by omega) (by omega)).trans e21) fo rn cv (by rw [I4 284 (by omega) (by omega) (by omega), I4 285 (by omega) (by omega) (by omega)]; exact ec) (fun j x hj => by
      have z := mc j x hj
      unfold COw at *
      rw [I4 298 (by omega) (by omega) (by omega)]
      exact z) _ Q _ cs.length 0 h4 (p, 0, -1, g0) none (by omega) RI0 (fun k hk H' w3 k12 mo lo => ?_) (fun s' hs H' w2 w3 R => ?_)
    · have KF := KF k hk
      clear KS
      have M' := mo.1.2.2.2.M M4
      have k8' := M'.1
      simp (disch := omega) only [U_Mo_orders (cm _), SA, SB, SC1, SC2, SG, SK, SV, k8', true_or, or_true, true_implies, not_true_eq_false, not_false_eq_true, false_implies, true_and, and_true]
      refine m_giveBack (d + 9) (hfi h2 273 8) M' _ (fun h5 gb => ?_)
      have M5 := gb.1.1.2.2.2.M M'
      have k85 := M5.1
      have bs := she_fi h5 273 (up1 (hfi h5 273) 48 (nI k))
      obtain ⟨-, b2, -, b4, b5⟩ := fi_g h5 273 (up1 (hfi h5 273) 48 (nI k))
      have E6 : MOE h5 (sFI h5 273 (up1 (hfi h5 273) 48 (nI k))) := MOE_f _ (fun k a b => by rw [up1_n _ _ (by omega)])
      generalize hh6 : sFI h5 273 (up1 (hfi h5 273) 48 (nI k)) = h6 at *
      have M6 := bs.1.2.2.2.M M5
      have k86 := M6.1
      have TN := fun Q => m_tellN (d + 10) 3 (by omega) (v := -3) (by decide) (by decide) M6 Q
      obtain ⟨g1, g2, g3⟩ := tn_g h6 (-3) 3
      have F6 : ∀ k, k ≠ 48 → k ≠ 8 → k ≠ 34 → k ≠ 38 → k ≠ 46 → k ≠ 47 → k ≠ 49 → hfi h6 273 k = hfi h2 273 k := fun k x0 x1 x2 x3 x4 x5 x6 => by rw [b4, up1_n _ _ x0, gb.2.2.1, up1_n _ _ x1, mo.2.2.1 k x1 x2 x3 x4 x5 x6, F4 k x4 x5]
      have f86 : hfi h6 273 8 = hfi h2 273 8 := by rw [b4, up1_n _ _ (by omega), gb.2.2.1, up1_s]
      have R5 : ∀ j, 5 ≤ j → j < 1754 → hia h6 275 j = p j := fun j x y => by rw [b2, gb.2.2.2.2.1 j x y, mo.2.2.2.2.2 _ (by omega) (by omega)]; exact s4 j x y
      have L5 : LO p (hia h6 275) := fun j hj => by rw [b2, gb.2.2.2.2.2.1 j (by omega)]; exact lo j hj
      have rg6 : RgM h6 g0 := RgM_k f86 (fun x hx => by rw [b2, gb.2.2.2.2.2.2.1 x hx, mo.2.2.2.1 280 (by omega) (by omega) (by omega)]; exact u4 x hx) (fun x hx => by rw [b2, gb.2.2.2.2.2.2.2 x hx, mo.2.2.2.1 281 (by omega) (by omega) (by omega)]; exact o4 x hx) rg2
      have i746 : hia h6 274 = hia h 274 := by rw [b2, gb.2.2.2.1 274 (by omega) (by omega) (by omega), mo.2.2.2.1 274 (by omega) (by omega) (by omega), I4 274 (by omega) (by omega) (by omega), i742]
      have Y := KF _ ((((E4.trans mo.E).trans gb.E).trans E6).trans (MLF_tn h6 (-3) 3).E) (by rw [g1, up1_s]) (by rw [g1, up1_n _ _ (by omega), F6 13 (by omega) (by omega) (by omega) (by omega) (by omega) (by omega) (by omega)]; exact e13) (by rw [g1, up1_n _ _ (by omega), F6 20 (by omega) (by omega) (by omega) (by omega) (by omega) (by omega) (by omega)]; exact e20) (by rw [g1, up1_n _ _ (by omega), F6 18 (by omega) (by omega) (by omega) (by omega) (by omega) (by omega) (by omega)]; exact e18) (by rw [g1, up1_n _ _ (by omega), b4, up1_s]) (fun j x y => by rw [g3 275 (by omega)]; exact R5 j x y) (by rw [g3 275 (by omega)]; exact L5) (by rw [g2, i746]) (RgM_k (by rw [g1, up1_n _ _ (by omega)]) (fun x _ => by rw [g3 278 (by omega)]) (fun x _ => by rw [g3 279 (by omega)]) rg6)
      generalize tnH h6 (-3) 3 = h9 at *
      simp (disch := omega) only [U_Mo_orders (cm _), SA, SB, SC1, SC2, SG, SK, SV, k85, hh6, k86, TN, true_or, or_true, true_implies, not_true_eq_false, not_false_eq_true, false_implies, true_and, and_true]
      exact Y
    · have KS := KS s' hs
      clear KF
      obtain ⟨mo, oi, r1, r2, r3, r4⟩ := R
      have M' := mo.1.2.2.2.M M4
      have k8' := M'.1
      have TN := fun Q => m_tellP (d + 10) s'.2.1 (by have := oi.2.2.1; omega) M' Q
      obtain ⟨g1, g2⟩ := tp_g H'
      have FF : ∀ k, k ≠ 8 → k ≠ 34 → k ≠ 38 → k ≠ 46 → k ≠ 47 → k ≠ 49 → hfi H' 273 k = hfi h2 273 k := fun k x1 x2 x3 x4 x5 x6 => by rw [mo.2.2.1 k x1 x2 x3 x4 x5 x6, F4 k x4 x5]
      have Y := KS _ ((E4.trans mo.E).trans (MLF_tp H').E) (by rw [g1, up1_s]) (by rw [g1, up1_n _ _ (by omega), FF 13 (by omega) (by omega) (by omega) (by omega) (by omega) (by omega)]; exact e13) (by rw [g1, up1_n _ _ (by omega), FF 20 (by omega) (by omega) (by omega) (by omega) (by omega) (by omega)]; exact e20) (by rw [g1, up1_n _ _ (by omega), FF 18 (by omega) (by omega) (by omega) (by omega) (by omega) (by omega)]; exact e18) (by rw [g1, up1_n _ _ (by omega), FF 48 (by omega) (by omega) (by omega) (by omega) (by omega) (by omega)]; exact f482) (by rw [g2]; exact r1) oi (by rw [g2, mo.2.2.2.1 274 (by omega) (by omega) (by omega), I4 274 (by omega) (by omega) (by omega), i742]) (RgM_c (by rw [g1, up1_n _ _ (by omega)]) g2 r2)
      generalize tpH H' = h9 at *
      simp (disch := omega) only [U_Mo_orders (cm _), SA, SB, SC1, SC2, SG, SK, SV, k8', r3, TN, true_or, or_true, true_implies, not_true_eq_false, not_false_eq_true, false_implies, true_and, and_true]
      exact Y
