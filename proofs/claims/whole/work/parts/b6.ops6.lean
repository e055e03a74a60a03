/-! ===== force ===== -/
theorem m_isLaw (d : Nat) (x : Int32) {nl : Nat} (hl : nl ≤ 6) {h : MH} (hM : MoS h) (w : hia h 275 1 = nI nl) (Q : RT) : callD (d + 2) 191 [.ref 273, .int x] h Q = Q (some (.int (b01 (isLw x nl)))) h := by
  obtain ⟨k8, r2, r3, r4⟩ := hM.row
  have I := fun lo hi h Q => e_in d x.toInt64 lo hi h Q
  have e : (lN 0 ≤ x.toInt64 ∧ x.toInt64 ≤ (nI nl).toInt64 - lN 1) ↔ ∃ f, f < nl ∧ x = nI f := by
    have t1 : ((nI nl).toInt64 - lN 1).toInt = (nl : Int) - 1 := by
      rcases (show nl = 0 ∨ nl = 1 ∨ nl = 2 ∨ nl = 3 ∨ nl = 4 ∨ nl = 5 ∨ nl = 6 by omega) with rfl | rfl | rfl | rfl | rfl | rfl | rfl <;> decide
    rw [Int64.le_iff_toInt_le, Int64.le_iff_toInt_le, t1, lN_t (by omega), Int32.toInt_toInt64]
    constructor
    · rintro ⟨a, b⟩
      have a' : (0 : Int) ≤ x.toInt := a
      refine ⟨x.toInt.toNat, by omega, ?_⟩
      apply Int32.toInt_inj.mp
      rw [nI_toInt (by omega)]
      omega
    · rintro ⟨f, hf, rfl⟩
      rw [nI_toInt (by omega)]
      exact ⟨by show (0 : Int) ≤ _; omega, by omega⟩
  rw [E_Mo_isLaw]
  by_cases c : x = -1
  · rw [b01_t (Or.inl c)]
    simp (disch := omega) only [U_Mo_isLaw (cm _), SA, SB, SC1, SC2, SG, SK, SV, c, true_or, or_true, true_implies, not_true_eq_false, not_false_eq_true, false_implies, true_and, and_true]
  · by_cases c2 : ∃ f, f < nl ∧ x = nI f
    · rw [b01_t (Or.inr c2)]
      have z := b01_t (e.mpr c2)
      simp (disch := omega) only [U_Mo_isLaw (cm _), SA, SB, SC1, SC2, SG, SK, SV, k8, r2, r3, r4, w, I, z, c, nI_clamp, in_eq, Nat.reduceLeDiff, eqI, Nat.one_ne_zero, true_or, or_true, true_implies, not_true_eq_false, not_false_eq_true, false_implies, true_and, and_true]
    · rw [b01_f (fun q => q.elim c c2)]
      have z := b01_f (fun q => c2 (e.mp q))
      simp (disch := omega) only [U_Mo_isLaw (cm _), SA, SB, SC1, SC2, SG, SK, SV, k8, r2, r3, r4, w, I, z, c, nI_clamp, in_eq, Nat.reduceLeDiff, eqI, Nat.one_ne_zero, true_or, or_true, true_implies, not_true_eq_false, not_false_eq_true, false_implies, true_and, and_true]
theorem CtV_v {h h' : MH} (v : Int32) (c : CtV h) (i1 : hia h' 244 = hia h 244) (i2 : hia h' 274 = hia h 274) (a1 : hfi h' 24 13 = v) (a2 : hfi h' 273 1 = v) (b : ∀ k, k = 14 ∨ k = 15 → hfi h' 24 k = hfi h 24 k) (e : hfi h' 213 6 = hfi h 213 6) (f : ∀ k, k = 11 ∨ k = 48 ∨ k = 18 ∨ k = 20 → hfi h' 273 k = hfi h 273 k) : CtV h' := by
  obtain ⟨c1, c6, c7, c8, c9, c10⟩ := c
  exact ⟨by rw [i1, i2]; exact c1, a1.trans a2.symm, by rw [b 14 (by omega), f 11 (by omega)]; exact c7, by rw [b 15 (by omega), f 48 (by omega)]; exact c8, by rw [e, f 18 (by omega)]; exact c9, (f 20 (by omega)).trans c10⟩
def rwH (h : MH) (P G : Nat → Int32) : MH := sFI (sIA h 275 P) 273 G
theorem rw_g (h : MH) (P G : Nat → Int32) : hia (rwH h P G) 275 = P ∧ hfi (rwH h P G) 273 = G ∧ (∀ a, a ≠ 273 → hfi (rwH h P G) a = hfi h a) ∧ (∀ a, a ≠ 275 → hia (rwH h P G) a = hia h a) := by
  refine ⟨?_, ?_, fun a h1 => ?_, fun a h1 => ?_⟩
  · have z := hia_s h 275 P; exact z
  · unfold rwH; rw [hfi_s]
  · unfold rwH; rw [hfi_nn _ _ h1]; rfl
  · have z := hia_n h (a := 275) P h1; exact z
theorem KWd_rw (h : MH) (P G : Nat → Int32) (hG : ∀ k, k = 8 ∨ k = 13 ∨ k = 52 → G k = hfi h 273 k) : KWd h (rwH h P G) := by
  obtain ⟨e1, e3, e4, e5⟩ := rw_g h P G
  exact ⟨⟨rfl, rfl, rfl, SHE.refl h⟩, fun a h1 _ _ _ _ _ h2 => e4 a h1, ⟨by rw [e4 214 (by omega)], by rw [e4 24 (by omega)], by rw [e4 24 (by omega)]⟩, fun k hk => by rw [e3]; exact hG k hk, fun a _ _ _ h1 _ _ => e5 a h1, fun _ _ => rfl, fun x _ => by rw [e5 278 (by omega)]⟩
theorem op_force_n (x : Int32) (d : Nat) (h : MH) (g : GI h) (c : ∀ nl, hia h 275 1 = nI nl → nl ≤ 6 → ¬ isLw x nl) : callD (d + 3) 91 (.ref 24 :: [.int x]) h (fun r h1 => ∃ v, r = some v ∧ callD (d + 3) 192 (.ref 273 :: [.int x]) h1 (fun r2 h2 => r2 = some v ∧ Pst h h2)) := by
  have so := g.1.1
  unfold XSo at so
  have sw := WoS_25 g.1
  unfold WoS at sw
  obtain ⟨k8, r2, r3, r4⟩ := g.2.1.1.row
  obtain ⟨-, -, ⟨w4, w5, w6, w7, w8⟩, ⟨nl, nl6, p1, p2, -⟩, sn, rn, sl⟩ := g.2.2.2.1
  have c := c nl p1 nl6
  have XL := fun Q => x_isLaw (d + 1) x nl6 g.1 (w4.trans p1) Q
  rw [E_Di_force]
  rw [b01_f c] at XL
  have R := fun Q => x_refused (d + 1) 2 (by omega) g.1 Q
  have e2 : rfV 2 = -2 := by decide
  rw [e2] at R
  simp (disch := omega) only [U_Di_force (cm _), SA, SB, SC1, SC2, SG, SK, SV, so, XL, R, eqI, Nat.one_ne_zero, true_implies, not_true_eq_false, not_false_eq_true, false_implies, true_and, and_true]
  refine ⟨_, rfl, ?_⟩
  have GR := fun (hc : MH) (k : KP (xrH h (rfV 2) (rfX 2)) hc) => GI_refused 2 (by omega) g (KP.refl h) k
  rw [e2] at GR
  have KX := (KQ_xr h (-2) (rfX 2)).1
  have hM1 : MoS (xrH h (-2) (rfX 2)) := KX.2.2.2.M g.2.1.1
  have w1 : hia (xrH h (-2) (rfX 2)) 275 1 = nI nl := by rw [(xr_g h (-2) (rfX 2)).2.2.2.2 275 (by omega)]; exact p1
  have EX := (KQ_xr h (-2) (rfX 2)).E
  clear KX
  generalize xrH h (-2) (rfX 2) = h1 at *
  have k81 := hM1.ref.1
  have KT1 := KP_th h1
  have hM2 : MoS (sFI h1 273 (up1 (hfi h1 273) 0 (nI 0))) := KT1.1.2.2.2.M hM1
  have w2 : hia (sFI h1 273 (up1 (hfi h1 273) 0 (nI 0))) 275 1 = nI nl := by have z := KT1.2.2.2.2.1 275 (scr_n (by omega)); unfold thH at z; rw [z]; exact w1
  have ML1 := fun Q => m_isLaw d x nl6 (h := sFI h1 273 (up1 (hfi h1 273) 0 (nI 0))) hM2 w2 Q
  rw [b01_f c] at ML1
  have TN := fun Q => m_tellR (d + 1) 2 (by omega) (h := sFI h1 273 (up1 (hfi h1 273) 0 (nI 0))) hM2 Q
  rw [e2] at TN
  have Y := GR (sFI h1 273 (up1 (hfi h1 273) 0 (nI 0))) KT1
  have EN := (EX.trans KT1.E).trans (KQ_tn (sFI h1 273 (up1 (hfi h1 273) 0 (nI 0))) (-2) 2).E
  clear KT1 GR EX
  generalize tnH (sFI h1 273 (up1 (hfi h1 273) 0 (nI 0))) (-2) 2 = h9 at *
  rw [E_Mo_force]
  simp (disch := omega) only [U_Mo_force (cm _), SA, SB, SC1, SC2, SG, SK, SV, SM, up1_s, k81, ML1, TN, eqI, Nat.one_ne_zero, true_implies, not_true_eq_false, not_false_eq_true, false_implies, true_and, and_true]
  exact Pst_e Y EN
