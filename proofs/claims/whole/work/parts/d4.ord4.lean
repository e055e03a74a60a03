/-! ===== orders: the program's loops over them ===== -/
theorem kdX_1 {k : Nat} (h : k ≤ 2) : kdX 1 k = k := by
  rcases (show k = 0 ∨ k = 1 ∨ k = 2 by omega) with rfl | rfl | rfl <;> rfl
theorem x_otimes (d N kp a i : Nat) (hN : N = 26 ∨ N = 221) (hkp : kp ≤ 1) (hi : i < 12) {Lo : Option LWS} {lv : Value} {cs : List CLA} {c : CLA} {h : MH} {p : RW} {g0 : RGy} (s0 : XS h) (l : LV h p Lo lv) (pg : PXg h a 1 cs) (hc : cs[i]? = some c) (h20 : c.2.1 ≤ 20) (Q : RT) (lm : Nat × Nat) : ∀ (m t M : Nat) (H : MH) (s : OS) (w10 : Option Value), t + m = c.2.1 → M + m ≤ 5000 → RIx N kp h p g0 M H s →
    (oTm Lo c m s = none → ∀ H', AQ N h H' → (∃ nx, kp = 0 → RgX H' nx g0) → hfi H' 24 15 = nI i → Q (some (.int (-1))) H') →
    (∀ s', oTm Lo c m s = some s' → ∀ H' w9 w10, RIx N kp h p g0 (M + m) H' s' → WP cd_Di_run (callD (d + 7)) Q lm 9 [] [some (.ref 24), some (.ref a), some (.ref N), some (.int (nI kp)), some (.int (nI s'.2.1)), some (.int (iI s'.2.2.1)), some (.int (nI (i + 1))), some (.int (nI c.1)), some (.int (nI c.2.1)), w9, w10] H') →
    WP cd_Di_run (callD (d + 7)) Q lm 37 [] [some (.ref 24), some (.ref a), some (.ref N), some (.int (nI kp)), some (.int (nI s.2.1)), some (.int (iI s.2.2.1)), some (.int (nI i)), some (.int (nI c.1)), some (.int (nI c.2.1)), some (.int (nI t)), w10] H
  | 0, t, M, H, s, w10, e, hM, R, Kf, Ks => by
    have Y := Ks s rfl H (some (.int (nI t))) w10 R
    rw [U_Di_run_37 (cm _)]
    simp (disch := omega) only [U_Di_run (cm _), SA, SB, SC1, SC2, SG, SK, SV, leI, show c.2.1 ≤ t by omega, nI_add, true_or, or_true, true_implies, not_true_eq_false, not_false_eq_true, false_implies, true_and, and_true]
    exact Y
  | m + 1, t, M, H, s, w10, e, hM, R, Kf, Ks => by
    refine x_ostep d N kp a i M t hN hkp hi (by omega) s0 l pg hc Q lm w10 R (by omega) (fun z => Kf (by show (match oStep Lo c s with | none => none | some s' => oTm Lo c m s') = none; rw [z])) (fun s' z H' w10' R' => ?_)
    have e1 : oTm Lo c (m + 1) s = oTm Lo c m s' := by show (match oStep Lo c s with | none => none | some s' => oTm Lo c m s') = _; rw [z]
    rw [e1] at Kf Ks
    exact x_otimes d N kp a i hN hkp hi s0 l pg hc h20 Q lm m (t + 1) (M + 1) H' s' w10' (by omega) (by omega) R' Kf (fun s2 z2 H2 w9 w10 R2 => Ks s2 z2 H2 w9 w10 (by rw [show M + (m + 1) = M + 1 + m by omega]; exact R2))
theorem x_oruns (d N kp a : Nat) (hN : N = 26 ∨ N = 221) (hkp : kp ≤ 1) {Lo : Option LWS} {lv : Value} {cs : List CLA} {h : MH} {p : RW} {g0 : RGy} (s0 : XS h) (l : LV h p Lo lv) (pg : PXg h a 1 cs) (Q : RT) (lm : Nat × Nat) : ∀ (m i : Nat) (H : MH) (s : OS) (w7 w8 w9 w10 : Option Value), i + m = cs.length → RIx N kp h p g0 (20 * i) H s →
    (∀ k, oR Lo cs m i s = .error k → ∀ H', AQ N h H' → (∃ nx, kp = 0 → RgX H' nx g0) → hfi H' 24 15 = nI k → Q (some (.int (-1))) H') →
    (∀ s', oR Lo cs m i s = .ok s' → ∀ H', RIx N kp h p g0 240 H' s' → Q (some (.int (nI s'.2.1))) H') →
    WP cd_Di_run (callD (d + 7)) Q lm 9 [] [some (.ref 24), some (.ref a), some (.ref N), some (.int (nI kp)), some (.int (nI s.2.1)), some (.int (iI s.2.2.1)), some (.int (nI i)), w7, w8, w9, w10] H
  | 0, i, H, s, w7, w8, w9, w10, e, R, Kf, Ks => by
    have okn : okN N := by unfold okN; omega
    obtain ⟨Nn, px, pc⟩ := PXg_q okn R.1 pg
    obtain ⟨⟨s1, s2, s3, s4, s5, s6, s7, s8⟩, -, -, -, -, -, n12⟩ := px
    have Y := Ks s rfl H (R.mono (by omega))
    rw [U_Di_run_9 (cm _)]
    simp (disch := omega) only [U_Di_run (cm _), SA, SB, SC1, SC2, SG, SK, SV, s1, s8, leI, show cs.length ≤ i by omega, true_or, or_true, true_implies, not_true_eq_false, not_false_eq_true, false_implies, true_and, and_true]
    exact Y
  | m + 1, i, H, s, w7, w8, w9, w10, e, R, Kf, Ks => by
    have okn : okN N := by unfold okN; omega
    obtain ⟨Nn, px, pc⟩ := PXg_q okn R.1 pg
    have n12 := px.2.2.2.2.2.2
    have hil : i < cs.length := by omega
    have hc : cs[i]? = some cs[i] := List.getElem?_eq_getElem hil
    have X := pc i _ hc
    have ed : cs.getD i c0 = cs[i] := by rw [List.getD_eq_getElem?_getD, hc]; rfl
    have PF := fun Q => p_fld (d + 6) a i (by omega) px hil Q
    have P1 := fun Q => (PF Q).1
    have P2 := fun Q => (PF Q).2.1
    clear PF
    generalize cs[i] = c at *
    obtain ⟨x1, x2, x3, x4, -⟩ := id X
    have k1 : kdX 1 c.1 = c.1 := kdX_1 (by omega)
    rw [k1] at x2
    obtain ⟨⟨s1, s2, s3, s4, s5, s6, s7, s8⟩, -⟩ := id px
    have Y := x_otimes d N kp a i hN hkp (by omega) s0 l pg hc x4.2 Q lm c.2.1 0 (20 * i) H s w10 (by omega) (by omega) R (fun z => Kf i (by show (match oTm Lo (cs.getD i c0) (cs.getD i c0).2.1 s with | none => Except.error i | some s' => oR Lo cs m (i + 1) s') = _; rw [ed, z])) (fun s' z H' w9 w10 R' => by
      have e1 : oR Lo cs (m + 1) i s = oR Lo cs m (i + 1) s' := by show (match oTm Lo (cs.getD i c0) (cs.getD i c0).2.1 s with | none => Except.error i | some s' => oR Lo cs m (i + 1) s') = _; rw [ed, z]
      rw [e1] at Kf Ks
      exact x_oruns d N kp a hN hkp s0 l pg Q lm m (i + 1) H' s' _ _ _ _ (by omega) (R'.mono (by omega)) Kf Ks)
    rw [U_Di_run_9 (cm _)]
    simp (disch := omega) only [U_Di_run (cm _), SA, SB, SC1, SC2, SG, SK, SV, s1, s8, leI, show ¬ cs.length ≤ i by omega, P1, P2, x2, x3, true_or, or_true, true_implies, not_true_eq_false, not_false_eq_true, false_implies, true_and, and_true]
    exact Y
theorem x_runO (d N kp a : Nat) (hN : N = 26 ∨ N = 221) (hkp : kp ≤ 1) {Lo : Option LWS} {lv : Value} {cs : List CLA} {h : MH} {p : RW} {g0 : RGy} {nx : Nat} (s0 : XS h) (l : LV h p Lo lv) (pg : PXg h a 1 cs) (V : NeV h N p) (iv : IV p) (rg : RgX h nx g0) (hg : g0.1 ≤ 16) (Q : RT)
    (Kf : ∀ k, oR Lo cs cs.length 0 (p, 0, -1, g0) = .error k → ∀ H', AQ N h H' → (∃ nx, kp = 0 → RgX H' nx g0) → hfi H' 24 15 = nI k → Q (some (.int (-1))) H')
    (Ks : ∀ s', oR Lo cs cs.length 0 (p, 0, -1, g0) = .ok s' → ∀ H', RIx N kp h p g0 240 H' s' → Q (some (.int (nI s'.2.1))) H') : callD (d + 8) 122 [.ref 24, .ref a, .ref N, .int (nI kp)] h Q := by
  have R : RIx N kp h p g0 (20 * 0) h (p, 0, -1, g0) := ⟨AQ.refl N h, V, ⟨iv, (fun _ _ => rfl : LO p p), by show 0 ≤ _; omega, ⟨by show (-1 : Int) ≤ -1; omega, by show (-1 : Int) ≤ 10000; omega⟩, hg⟩, rfl, nx, by
    have e : rgQ kp g0 (p, 0, -1, g0) = g0 := by unfold rgQ; split <;> rfl
    rw [e]; exact rg⟩
  have Y : ∀ lm, WP cd_Di_run (callD (d + 7)) Q lm 9 [] [some (.ref 24), some (.ref a), some (.ref N), some (.int (nI kp)), some (.int (nI 0)), some (.int (-1)), some (.int (nI 0)), none, none, none, none] h := fun lm => by
    rw [← iI_m1]
    exact x_oruns d N kp a hN hkp s0 l pg Q lm cs.length 0 h (p, 0, -1, g0) none none none none (by omega) R Kf Ks
  rw [E_Di_run]
  simp (disch := omega) only [U_Di_run (cm _), SA, SB, SC1, SC2, SG, SK, SV, true_and, true_or, or_true, true_implies, not_true_eq_false, not_false_eq_true, false_implies, true_and, and_true]
  exact Y _
