/-! ===== the reference's texts: begin and end ===== -/
def MTG (h h' : MH) : Prop := (hsz h' = hsz h ∧ hcc h' = hcc h ∧ hcu h' = hcu h ∧ SHE h h' ∧ hja h' = hja h) ∧ (∀ a, a ≠ 273 → hfi h' a = hfi h a ∧ hfj h' a = hfj h a) ∧ (∀ a, (a < 283 ∨ 287 < a) → a ≠ 298 → hia h' a = hia h a) ∧ (∀ k, k < 13 ∨ k = 22 ∨ k = 24 ∨ k = 25 ∨ k = 27 ∨ k = 28 ∨ 30 < k → hfi h' 273 k = hfi h 273 k) ∧ (∀ k, k ≠ 17 → hfj h' 273 k = hfj h 273 k)
theorem MTG.refl (h : MH) : MTG h h := ⟨⟨rfl, rfl, rfl, SHE.refl h, rfl⟩, fun _ _ => ⟨rfl, rfl⟩, fun _ _ _ => rfl, fun _ _ => rfl, fun _ _ => rfl⟩
theorem MTG.trans {a b c : MH} (x : MTG a b) (y : MTG b c) : MTG a c := by
  obtain ⟨⟨x1, x2, x3, x4, x5⟩, x6, x7, x8, x9⟩ := x
  obtain ⟨⟨y1, y2, y3, y4, y5⟩, y6, y7, y8, y9⟩ := y
  exact ⟨⟨y1.trans x1, y2.trans x2, y3.trans x3, x4.trans y4, y5.trans x5⟩, fun p q => ⟨((y6 p q).1).trans (x6 p q).1, ((y6 p q).2).trans (x6 p q).2⟩, fun p q r => (y7 p q r).trans (x7 p q r), fun p a => (y8 p a).trans (x8 p a), fun p q => (y9 p q).trans (x9 p q)⟩
theorem MTF.G {h h' : MH} (x : MTF h h') : MTG h h' := ⟨x.1, x.2.1, x.2.2.1, fun k hk => x.2.2.2.1 k (by omega) (by omega) (by omega) (by omega) (by omega) (by omega) (by omega) (by omega) (by omega) (by omega), x.2.2.2.2⟩
theorem MTG_f {h : MH} (f : Nat → Int32) (hf : ∀ k, k < 13 ∨ k = 22 ∨ k = 24 ∨ k = 25 ∨ k = 27 ∨ k = 28 ∨ 30 < k → f k = hfi h 273 k) : MTG h (sFI h 273 f) := ⟨⟨rfl, rfl, rfl, SHE.refl h, rfl⟩, fun a ha => ⟨hfi_nn _ _ ha, rfl⟩, fun _ _ _ => rfl, fun k hk => by rw [hfi_s]; exact hf k hk, fun _ _ => rfl⟩
def etH (h : MH) : MH := sFI h 273 (up1 (up1 (hfi h 273) 20 (nI 0)) 13 (nI 0))
theorem et_g (h : MH) : hfi (etH h) 273 = up1 (up1 (hfi h 273) 20 (nI 0)) 13 (nI 0) := hfi_s _ _ _
theorem MTG_et (h : MH) : MTG h (etH h) := MTG_f _ (fun k hk => by rw [up1_n _ _ (by omega), up1_n _ _ (by omega)])
theorem m_endTextE (d : Nat) {h : MH} {f : Nat} (e : MErz h f) (Q : RT) : callD (d + 1) 188 [.ref 273] h Q = Q none (etH h) := by
  have k8 := e.2.2.cls.1
  have b := e.1
  rw [E_Mo_endText]
  unfold etH
  simp (disch := omega) only [U_Mo_endText (cm _), SA, SB, SC1, SC2, SG, SK, SV, up1_s, k8, b, eqI, Nat.one_ne_zero, true_or, or_true, true_implies, not_true_eq_false, not_false_eq_true, false_implies, true_and, and_true]
theorem tTy_lt (T : TP) (q : Nat) : tTy T q < 4 := by unfold tTy; split; split; omega; split <;> omega; omega
theorem m_endText (d : Nat) {h : MH} {T : TP} {om q : Nat} {cf : CFt} {nc k : Nat} (r : MRz h T om q cf nc k) (Q : RT) : callD (d + 4) 188 [.ref 273] h Q = if tTy T q = 0 then Q none (etH h) else Q none (etH (bdH h)) := by
  have k8 := r.1.1.1
  have b := r.2.2.2.1
  have t16 : hfi h 273 16 = nI (tTy T q) := r.1.2.2.2.2.2.2.1
  have tl := tTy_lt T q
  have M0 := fun Q => m_must d q false r.1 r.2.2.2.1 Q
  simp only [b2_f, Bool.false_eq_true, if_false] at M0
  rw [E_Mo_endText]
  unfold etH
  by_cases c : tTy T q = 0
  · rw [if_pos c]
    simp (disch := omega) only [U_Mo_endText (cm _), SA, SB, SC1, SC2, SG, SK, SV, up1_s, k8, b, t16, c, eqI, Nat.one_ne_zero, true_or, or_true, true_implies, not_true_eq_false, not_false_eq_true, false_implies, true_and, and_true]
  · rw [if_neg c]
    have bk : hkd (bdH h) 273 = 8 := k8
    generalize bdH h = h1 at *
    simp (disch := omega) only [U_Mo_endText (cm _), SA, SB, SC1, SC2, SG, SK, SV, up1_s, k8, bk, b, t16, c, M0, eqI, Nat.one_ne_zero, true_or, or_true, true_implies, not_true_eq_false, not_false_eq_true, false_implies, true_and, and_true]
theorem m_beginText (d om : Nat) (hom : om = 0 ∨ om = 1) {h : MH} {T : TP} (hM : MoS h) (hw : WDM h) (hb : TB (hia h 282) T) (h13 : hfi h 273 13 = nI T.2) (cf : CFt) (Q : RT) (K : ∀ h', MTG h h' → hja h' = hja h → MRz h' T om 0 cf 0 0 → hfi h' 273 21 = nI 0 → Q none h') : callD (d + 4) 187 [.ref 273, .int (nI om)] h Q := by
  have sA : MaS h := MoS.tap hM
  have k8 := hM.cls.1
  have NX : ∀ (G : Nat → Int32), G 13 = nI T.2 → G 15 = nI 0 → ∀ Q, callD (d + 2) 166 [.ref 273] (sFI h 273 G) Q = Q none (MF (sFI h 273 G) (mkF G T 0) (mkG (hfj h 273) T 0)) := fun G g13 g15 Q => by
    have z := m_nextQ d 0 (h := sFI h 273 G) (T := T) sA hb (Nat.zero_le _) (by rw [hfi_s]; exact g13) (by rw [hfi_s]; exact g15) Q
    rw [hfi_s] at z
    exact z
  have o01 : nI om = nI 0 ∨ nI om = nI 1 := by rcases hom with rfl | rfl; exact Or.inl rfl; exact Or.inr rfl
  rw [E_Mo_beginText]
  simp (disch := omega) only [U_Mo_beginText (cm _), E_Mo_beginTape, U_Mo_beginTape (cm _), SA, SB, SC1, SC2, SG, SK, SV, up1_s, k8, o01, true_or, or_true, true_implies, true_and]
  rw [NX _ (by simp (disch := omega) only [up1_s, up1_n]; exact h13) (by simp (disch := omega) only [up1_s, up1_n])]
  have key : ∀ (G : Nat → Int32) (g : MH), G 13 = nI T.2 → G 18 = -1 → G 19 = nI 0 → G 20 = nI om → (∀ k, k < 13 ∨ k = 22 ∨ k = 24 ∨ k = 25 ∨ k = 27 ∨ k = 28 ∨ 30 < k → G k = hfi h 273 k) → g = MF (sFI h 273 G) (mkF G T 0) (mkG (hfj h 273) T 0) → hkd g 273 = 8 ∧ Q none (sFI g 273 (up1 (up1 (up1 (hfi g 273) 21 (nI 0)) 23 (nI 0)) 26 (nI 0))) := fun G g g13 g18 g19 g20 gk eg => by
    have ef : hfi g 273 = mkF G T 0 := by rw [eg, MF_g.1]
    have ej : hfj g 273 = mkG (hfj h 273) T 0 := by rw [eg, MF_g.2.1]
    have eo : ∀ a, a ≠ 273 → hfi g a = hfi h a ∧ hfj g a = hfj h a := fun a ha => by
      rw [eg]
      exact ⟨by show up1 (up1 (hfi h) 273 G) 273 (mkF G T 0) a = _; rw [up1_n _ _ ha, up1_n _ _ ha], by show up1 (hfj h) 273 _ a = _; rw [up1_n _ _ ha]⟩
    have es : hsz g = hsz h ∧ hcc g = hcc h ∧ hcu g = hcu h ∧ SHE h g ∧ hja g = hja h ∧ hia g = hia h := by rw [eg]; exact ⟨rfl, rfl, rfl, SHE.refl h, rfl, rfl⟩
    have eM : MoS g := by rw [eg]; exact hM
    clear eg
    have F : ∀ k, k ≠ 21 → k ≠ 23 → k ≠ 26 → hfi (sFI g 273 (up1 (up1 (up1 (hfi g 273) 21 (nI 0)) 23 (nI 0)) 26 (nI 0))) 273 k = mkF G T 0 k := fun k a b c => by rw [hfi_s, up1_n _ _ c, up1_n _ _ b, up1_n _ _ a, ef]
    have F2 : ∀ k, k ≠ 14 → k ≠ 15 → k ≠ 16 → mkF G T 0 k = G k := fun k a b c => by unfold mkF; rw [up1_n _ _ c, up1_n _ _ b, up1_n _ _ a]
    refine ⟨eM.cls.1, K _ ⟨⟨es.1, es.2.1, es.2.2.1, es.2.2.2.1, es.2.2.2.2.1⟩, fun a ha => ⟨(hfi_nn _ _ ha).trans (eo a ha).1, (eo a ha).2⟩, fun a _ _ => by show hia g a = _; rw [es.2.2.2.2.2], fun k hk => by rw [F k (by omega) (by omega) (by omega), F2 k (by omega) (by omega) (by omega), gk k hk], fun k hk => by show hfj g 273 k = _; rw [ej]; exact up1_n _ _ hk⟩ es.2.2.2.2.1 ⟨⟨eM.tap, by show TB (hia g 282) T; rw [es.2.2.2.2.2]; exact hb, Nat.zero_le _, ?_, ?_, ?_, ?_, ?_⟩, ⟨eM, ?_, fun i hi => absurd hi (Nat.not_lt_zero i), Nat.zero_le _⟩, by unfold WDM; show (∀ k, k < 7 → hja g 288 k = _) ∧ (∀ k, k < 6 → hja g 289 k = _); rw [es.2.2.2.2.1]; exact hw, ?_, ?_, ?_, ?_⟩ ?_⟩
    · rw [F 13 (by omega) (by omega) (by omega), F2 13 (by omega) (by omega) (by omega), g13]
    · rw [F 14 (by omega) (by omega) (by omega)]; unfold mkF; simp (disch := omega) only [up1_s, up1_n]
    · rw [F 15 (by omega) (by omega) (by omega)]; unfold mkF; simp (disch := omega) only [up1_s, up1_n]
    · rw [F 16 (by omega) (by omega) (by omega)]; unfold mkF; simp (disch := omega) only [up1_s, up1_n]
    · show hfj g 273 17 = _; rw [ej]; exact up1_s _ _ _
    · rw [hfi_s, up1_n _ _ (by omega), up1_s]
    · rw [F 19 (by omega) (by omega) (by omega), F2 19 (by omega) (by omega) (by omega), g19]
    · rw [F 20 (by omega) (by omega) (by omega), F2 20 (by omega) (by omega) (by omega), g20]
    · rw [hfi_s, up1_s]
    · rw [F 18 (by omega) (by omega) (by omega), F2 18 (by omega) (by omega) (by omega), g18]
    · rw [hfi_s, up1_n _ _ (by omega), up1_n _ _ (by omega), up1_s]
  clear K NX
  obtain ⟨z1, z2⟩ := key (up1 (up1 (up1 (up1 (hfi h 273) 20 (nI om)) 15 (nI 0)) 19 (nI 0)) 18 (-1)) _ (by simp (disch := omega) only [up1_s, up1_n]; exact h13) (by simp (disch := omega) only [up1_s, up1_n]) (by simp (disch := omega) only [up1_s, up1_n]) (by simp (disch := omega) only [up1_s, up1_n]) (fun k hk => by simp (disch := omega) only [up1_n]) rfl
  clear key
  generalize MF (sFI h 273 (up1 (up1 (up1 (up1 (hfi h 273) 20 (nI om)) 15 (nI 0)) 19 (nI 0)) 18 (-1))) (mkF (up1 (up1 (up1 (up1 (hfi h 273) 20 (nI om)) 15 (nI 0)) 19 (nI 0)) 18 (-1)) T 0) (mkG (hfj h 273) T 0) = g at *
  simp (disch := omega) only [U_Mo_beginText (cm _), U_Mo_beginTape (cm _), SA, SB, SC1, SC2, SG, SK, SV, up1_s, z1, true_and]
  exact z2
