/-! ===== seen, the pair; terms ===== -/
theorem fi_ia (h : MH) (a : Nat) (f : Nat → Int32) : hfi (sIA h a f) = hfi h := rfl
theorem ia_fi (h : MH) (a : Nat) (f : Nat → Int32) : hia (sFI h a f) = hia h := rfl
theorem xs_g (h : MH) (ns f n : Nat) : KWd h (xsH h ns f n) ∧ hia (xsH h ns f n) 37 = up1 (hia h 37) ns (nI f) ∧ hia (xsH h ns f n) 38 = up1 (hia h 38) ns (nI n) ∧ (∀ a, a ≠ 37 → a ≠ 38 → hia (xsH h ns f n) a = hia h a) ∧ hfi (xsH h ns f n) 25 = up1 (hfi h 25) 6 (nI (ns + 1)) ∧ hfi (xsH h ns f n) 24 = up1 (hfi h 24) 13 (nI 0) ∧ (∀ a, a ≠ 24 → a ≠ 25 → hfi (xsH h ns f n) a = hfi h a) := by
  unfold xsH
  have k1 := KWd_i h (x := 37) (by omega) (up1 (hia h 37) ns (nI f))
  have a37 := hia_s h 37 (up1 (hia h 37) ns (nI f))
  have an : ∀ a, a ≠ 37 → hia (sIA h 37 (up1 (hia h 37) ns (nI f))) a = hia h a := fun a ha => hia_n _ _ ha
  have af : hfi (sIA h 37 (up1 (hia h 37) ns (nI f))) = hfi h := fi_ia _ _ _
  generalize sIA h 37 (up1 (hia h 37) ns (nI f)) = h1 at *
  have k2 := KWd_i h1 (x := 38) (by omega) (up1 (hia h 38) ns (nI n))
  have b38 := hia_s h1 38 (up1 (hia h 38) ns (nI n))
  have bn : ∀ a, a ≠ 38 → hia (sIA h1 38 (up1 (hia h 38) ns (nI n))) a = hia h1 a := fun a ha => hia_n _ _ ha
  have bf : hfi (sIA h1 38 (up1 (hia h 38) ns (nI n))) = hfi h1 := fi_ia _ _ _
  generalize sIA h1 38 (up1 (hia h 38) ns (nI n)) = h2 at *
  have k3 := KWd_25 h2 (up1 (hfi h 25) 6 (nI (ns + 1)))
  have c25 := hfi_s h2 25 (up1 (hfi h 25) 6 (nI (ns + 1)))
  have cn : ∀ a, a ≠ 25 → hfi (sFI h2 25 (up1 (hfi h 25) 6 (nI (ns + 1)))) a = hfi h2 a := fun a ha => hfi_nn _ _ ha
  have ci : hia (sFI h2 25 (up1 (hfi h 25) 6 (nI (ns + 1)))) = hia h2 := ia_fi _ _ _
  generalize sFI h2 25 (up1 (hfi h 25) 6 (nI (ns + 1))) = h3 at *
  obtain ⟨x1, x2, x3⟩ := xw_g h3
  have k4 := (KQ_xw h3).W
  generalize xwH h3 = h4 at *
  refine ⟨((k1.trans k2).trans k3).trans k4, ?_, ?_, fun a h1 h2 => ?_, ?_, ?_, fun a h1 h2 => ?_⟩
  · rw [x1, ci, bn 37 (by omega), a37]
  · rw [x1, ci, b38]
  · rw [x1, ci, bn a h2, an a h1]
  · rw [x3 25 (by omega), c25]
  · rw [x2, cn 24 (by omega), bf, af]
  · rw [x3 a h1, cn a h2, bf, af]
theorem op_seen (f n : Int32) : PairOp 2 101 228 [.int f, .int n] := fun d h g => by
  obtain ⟨-, -, ⟨w4, w5, w6, w7, w8⟩, -, ⟨ns, n1, n2, n3⟩, rn, sl⟩ := g.2.2.2.1
  refine x_seen d f n n1 g.1 (w6.trans n2) _ (fun c => ⟨_, rfl, ?_⟩) (fun c1 c2 c3 => ⟨_, rfl, ?_⟩) (fun f' n' hf hn ef en lt => ⟨_, rfl, ?_⟩)
  · obtain ⟨hM1, ei, ef, -, fin⟩ := rfM 1 (by omega) g
    generalize xrH h (rfV 1) (rfX 1) = h1 at *
    obtain ⟨hM2, ei2, -, kp⟩ := thM hM1
    generalize hh : thH h1 = h2 at *
    exact m_seen d f n n1 hh hM1.1 hM2 (by rw [ei2, ei 275 (by omega)]; exact n2) _ (fun _ => ⟨rfl, fin h2 kp⟩) (fun c1 c2 _ => absurd ⟨c1, c2⟩ c) (fun f' n' a1 a2 e1 e2 _ => absurd ⟨by rw [e1]; exact ⟨by rw [leI (by omega) (by omega)]; omega, by rw [leI (by omega) (by omega)]; exact a1⟩, by rw [e2]; exact ⟨by rw [leI (by omega) (by omega)]; omega, by rw [leI (by omega) (by omega)]; exact a2⟩⟩ c)
  · obtain ⟨hM1, ei, ef, -, fin⟩ := rfM 5 (by omega) g
    generalize xrH h (rfV 5) (rfX 5) = h1 at *
    obtain ⟨hM2, ei2, -, kp⟩ := thM hM1
    generalize hh : thH h1 = h2 at *
    exact m_seen d f n n1 hh hM1.1 hM2 (by rw [ei2, ei 275 (by omega)]; exact n2) _ (fun z => absurd ⟨c1, c2⟩ z) (fun _ _ _ => ⟨rfl, fin h2 kp⟩) (fun f' n' a1 a2 e1 e2 z => absurd c3 (by omega))
  · obtain ⟨K1, x37, x38, xi, x25, x24, xf⟩ := xs_g h ns f' n'
    have hM1 := K1.1.2.2.2.M g.2.1.1
    generalize xsH h ns f' n' = h1 at *
    obtain ⟨hM2, ei2, ef2, kp⟩ := thM hM1
    have K2 := K1.trans kp.Q.W
    have kf := kp.2.1
    generalize hh : thH h1 = h2 at *
    have nf : rgI f 3 := by rw [ef]; exact ⟨by rw [leI (by omega) (by omega)]; omega, by rw [leI (by omega) (by omega)]; exact hf⟩
    have nn' : rgI n 6 := by rw [en]; exact ⟨by rw [leI (by omega) (by omega)]; omega, by rw [leI (by omega) (by omega)]; exact hn⟩
    refine m_seen d f n n1 hh hM1.1 hM2 (by rw [ei2, xi 275 (by omega) (by omega)]; exact n2) _ (fun z => absurd ⟨nf, nn'⟩ z) (fun _ _ z => absurd z (by omega)) (fun f2 n2' a1 a2 e1 e2 _ => ⟨rfl, ?_⟩)
    have ef' : f2 = f' := by
      have z := e1.symm.trans ef
      rw [eqI (by omega) (by omega)] at z; exact z
    have en' : n2' = n' := by
      have z := e2.symm.trans en
      rw [eqI (by omega) (by omega)] at z; exact z
    subst ef' en'
    have h275 : hia h2 275 = hia h 275 := by rw [ei2, xi 275 (by omega) (by omega)]
    rw [h275]
    have K3 := KWd_i h2 (x := 275) (by omega) (up1 (up1 (up1 (hia h 275) (2010 + 2 * ns) (nI f2)) (2010 + 2 * ns + 1) (nI n2')) 0 (nI (ns + 1)))
    have y1 := hia_s h2 275 (up1 (up1 (up1 (hia h 275) (2010 + 2 * ns) (nI f2)) (2010 + 2 * ns + 1) (nI n2')) 0 (nI (ns + 1)))
    have y2 : ∀ a, a ≠ 275 → hia (sIA h2 275 (up1 (up1 (up1 (hia h 275) (2010 + 2 * ns) (nI f2)) (2010 + 2 * ns + 1) (nI n2')) 0 (nI (ns + 1)))) a = hia h2 a := fun a ha => hia_n _ _ ha
    have y3 : hfi (sIA h2 275 (up1 (up1 (up1 (hia h 275) (2010 + 2 * ns) (nI f2)) (2010 + 2 * ns + 1) (nI n2')) 0 (nI (ns + 1)))) = hfi h2 := fi_ia _ _ _
    generalize sIA h2 275 (up1 (up1 (up1 (hia h 275) (2010 + 2 * ns) (nI f2)) (2010 + 2 * ns + 1) (nI n2')) 0 (nI (ns + 1))) = h3 at *
    have K4 := (KQ_tp h3).W
    obtain ⟨t1, t2⟩ := tp_g h3
    have t3 := tp_f h3
    generalize tpH h3 = h4 at *
    have KK := (K2.trans K3).trans K4
    have P : hia h4 275 = up1 (up1 (up1 (hia h 275) (2010 + 2 * ns) (nI f2)) (2010 + 2 * ns + 1) (nI n2')) 0 (nI (ns + 1)) := by rw [t2, y1]
    have PO : ∀ y, y ≠ 0 → y ≠ 2010 + 2 * ns → y ≠ 2010 + 2 * ns + 1 → hia h4 275 y = hia h 275 y := fun y a b c => by rw [P, up1_n _ _ a, up1_n _ _ c, up1_n _ _ b]
    have F25 : hfi h4 25 = up1 (hfi h 25) 6 (nI (ns + 1)) := by rw [t3 25 (by omega), y3, kf 25 (by omega) (by omega) (by omega) (by omega) (by omega), x25]
    have F24 : hfi h4 24 = up1 (hfi h 24) 13 (nI 0) := by rw [t3 24 (by omega), y3, kf 24 (by omega) (by omega) (by omega) (by omega) (by omega), x24]
    have I37 : hia h4 37 = up1 (hia h 37) ns (nI f2) := by rw [t2, y2 37 (by omega), ei2, x37]
    have I38 : hia h4 38 = up1 (hia h 38) ns (nI n2') := by rw [t2, y2 38 (by omega), ei2, x38]
    have IO : ∀ a, a ≠ 275 → a ≠ 37 → a ≠ 38 → hia h4 a = hia h a := fun a b c d => by rw [t2, y2 a b, ei2, xi a c d]
    have FM : ∀ k, k ≠ 0 → k ≠ 1 → hfi h4 273 k = hfi h 273 k := fun k a b => by rw [t1, up1_n _ _ b, y3, ef2 k a, xf 273 (by omega) (by omega)]
    have F213 : hfi h4 213 6 = hfi h 213 6 := by rw [t3 213 (by omega), y3, kp.2.2.1.1, xf 213 (by omega) (by omega)]
    refine Pst_e (GI_kw KK g (CtV_v (nI 0) g.2.2.2.2.2.2.1 (IO 244 (by omega) (by omega) (by omega)) (IO 274 (by omega) (by omega) (by omega)) (by rw [F24, up1_s]) (by rw [t1, up1_s]) (fun k hk => by rw [F24, up1_n _ _ (by omega)]) F213 (fun k hk => FM k (by omega) (by omega))) (fun y a _ => PO y (by omega) (by omega) (by omega)) (fun y a => PO y (by omega) (by omega) (by omega)) (PO 1 (by omega) (by omega) (by omega)) (fun _ _ _ z => by rw [PO 2 (by omega) (by omega) (by omega)]; exact z) ⟨?_, ?_, ?_, ?_, ?_⟩ ⟨ns + 1, by omega, by rw [P, up1_s], fun i hi => ?_⟩ ?_ ?_) KK.E
    · rw [PO 1 (by omega) (by omega) (by omega), F25, up1_n _ _ (by omega)]; exact w4
    · rw [PO 2 (by omega) (by omega) (by omega), F25, up1_n _ _ (by omega)]; exact w5
    · rw [P, up1_s, F25, up1_s]
    · rw [PO 3 (by omega) (by omega) (by omega), F25, up1_n _ _ (by omega)]; exact w7
    · rw [PO 4 (by omega) (by omega) (by omega), F25, up1_n _ _ (by omega)]; exact w8
    · by_cases e : i = ns
      · subst e
        have q1 : hia h4 275 (2010 + 2 * i) = nI f2 := by rw [P, up1_n _ _ (by omega), up1_n _ _ (by omega), up1_s]
        have q2 : hia h4 275 (2010 + 2 * i + 1) = nI n2' := by rw [P, up1_n _ _ (by omega), up1_s]
        exact ⟨by rw [q1]; show hia h4 37 i = _; rw [I37, up1_s], by rw [q2]; show hia h4 38 i = _; rw [I38, up1_s], ⟨f2, by omega, q1⟩, ⟨n2', by omega, q2⟩⟩
      · have q1 : hia h4 275 (2010 + 2 * i) = hia h 275 (2010 + 2 * i) := PO _ (by omega) (by omega) (by omega)
        have q2 : hia h4 275 (2010 + 2 * i + 1) = hia h 275 (2010 + 2 * i + 1) := PO _ (by omega) (by omega) (by omega)
        obtain ⟨u1, u2, u3, u4⟩ := n3 i (by omega)
        rw [q1, q2]
        exact ⟨by show hia h4 37 i = _; rw [I37, up1_n _ _ e]; exact u1, by show hia h4 38 i = _; rw [I38, up1_n _ _ e]; exact u2, u3, u4⟩
    · obtain ⟨md, m1, m2⟩ := rn
      exact ⟨md, m1, (PO 4 (by omega) (by omega) (by omega)).trans m2⟩
    · obtain ⟨s, s1, s2⟩ := sl
      exact ⟨s, s1, (PO 3 (by omega) (by omega) (by omega)).trans s2⟩
