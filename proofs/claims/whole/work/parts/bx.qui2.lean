/-! ===== the same, by the reference ===== -/
set_option maxRecDepth 20000 in
theorem UC_Mo_quietBy_120 {G : GT} (hG : Gmono G) (R : RT) (lm : Nat × Nat) : WP cd_Mo_quietBy G R lm 0 = stp G R lm (2, 1, 0, 0, 0, 0, []) (WP cd_Mo_quietBy G R lm) ∧ WP cd_Mo_quietBy G R lm 1 = stp G R lm (58, 4, 8, 3, 0, 0, []) (WP cd_Mo_quietBy G R lm) ∧ WP cd_Mo_quietBy G R lm 4 = stp G R lm (7, 5, 0, 0, nI 2, 0, []) (WP cd_Mo_quietBy G R lm) ∧ WP cd_Mo_quietBy G R lm 5 = stp G R lm (62, 6, 0, 0, 0, 0, []) (WP cd_Mo_quietBy G R lm) ∧ WP cd_Mo_quietBy G R lm 6 = stp G R lm (4, 7, 2, 0, 0, 0, []) (WP cd_Mo_quietBy G R lm) ∧ WP cd_Mo_quietBy G R lm 7 = stp G R lm (2, 8, 0, 0, 0, 0, []) (WP cd_Mo_quietBy G R lm) ∧ WP cd_Mo_quietBy G R lm 8 = stp G R lm (7, 10, 0, 0, nI 16, 0, []) (WP cd_Mo_quietBy G R lm) ∧ WP cd_Mo_quietBy G R lm 10 = stp G R lm (86, 13, 135, 1, 0, 0, [8]) (WP cd_Mo_quietBy G R lm) ∧ WP cd_Mo_quietBy G R lm 13 = stp G R lm (2, 14, 0, 0, 0, 0, []) (WP cd_Mo_quietBy G R lm) ∧ WP cd_Mo_quietBy G R lm 14 = stp G R lm (58, 17, 8, 3, 0, 0, []) (WP cd_Mo_quietBy G R lm) ∧ WP cd_Mo_quietBy G R lm 17 = stp G R lm (7, 18, 0, 0, nI 2, 0, []) (WP cd_Mo_quietBy G R lm) ∧ WP cd_Mo_quietBy G R lm 18 = stp G R lm (1, 19, 1, 0, 0, 0, []) (WP cd_Mo_quietBy G R lm) ∧ WP cd_Mo_quietBy G R lm 19 = stp G R lm (66, 20, 0, 0, 0, 0, []) (WP cd_Mo_quietBy G R lm) ∧ WP cd_Mo_quietBy G R lm 20 = stp G R lm (7, 21, 0, 0, nI 0, 0, []) (WP cd_Mo_quietBy G R lm) ∧ WP cd_Mo_quietBy G R lm 21 = stp G R lm (4, 22, 3, 0, 0, 0, []) (WP cd_Mo_quietBy G R lm) ∧ WP cd_Mo_quietBy G R lm 23 = stp G R lm (7, 24, 0, 0, (-1), 0, []) (WP cd_Mo_quietBy G R lm) ∧ WP cd_Mo_quietBy G R lm 24 = stp G R lm (41, 27, 78, 0, 0, 0, []) (WP cd_Mo_quietBy G R lm) ∧ WP cd_Mo_quietBy G R lm 27 = stp G R lm (2, 28, 0, 0, 0, 0, []) (WP cd_Mo_quietBy G R lm) ∧ WP cd_Mo_quietBy G R lm 28 = stp G R lm (58, 31, 8, 3, 0, 0, []) (WP cd_Mo_quietBy G R lm) ∧ WP cd_Mo_quietBy G R lm 31 = stp G R lm (7, 33, 0, 0, nI 6, 0, []) (WP cd_Mo_quietBy G R lm) ∧ WP cd_Mo_quietBy G R lm 33 = stp G R lm (62, 34, 0, 0, 0, 0, []) (WP cd_Mo_quietBy G R lm) ∧ WP cd_Mo_quietBy G R lm 34 = stp G R lm (52, 37, 78, 0, 0, 0, []) (WP cd_Mo_quietBy G R lm) ∧ WP cd_Mo_quietBy G R lm 37 = stp G R lm (1, 38, 3, 0, 0, 0, []) (WP cd_Mo_quietBy G R lm) ∧ WP cd_Mo_quietBy G R lm 38 = stp G R lm (7, 41, 0, 0, nI 999, 0, []) (WP cd_Mo_quietBy G R lm) ∧ WP cd_Mo_quietBy G R lm 41 = stp G R lm (44, 44, 73, 0, 0, 0, []) (WP cd_Mo_quietBy G R lm) ∧ WP cd_Mo_quietBy G R lm 44 = stp G R lm (2, 45, 0, 0, 0, 0, []) (WP cd_Mo_quietBy G R lm) ∧ WP cd_Mo_quietBy G R lm 45 = stp G R lm (86, 48, 214, 0, 0, 0, [8]) (WP cd_Mo_quietBy G R lm) ∧ WP cd_Mo_quietBy G R lm 48 = stp G R lm (39, 49, 0, 0, 0, 0, []) (WP cd_Mo_quietBy G R lm) ∧ WP cd_Mo_quietBy G R lm 49 = stp G R lm (2, 50, 0, 0, 0, 0, []) (WP cd_Mo_quietBy G R lm) ∧ WP cd_Mo_quietBy G R lm 50 = stp G R lm (58, 53, 8, 3, 0, 0, []) (WP cd_Mo_quietBy G R lm) ∧ WP cd_Mo_quietBy G R lm 53 = stp G R lm (7, 55, 0, 0, nI 6, 0, []) (WP cd_Mo_quietBy G R lm) ∧ WP cd_Mo_quietBy G R lm 55 = stp G R lm (62, 56, 0, 0, 0, 0, []) (WP cd_Mo_quietBy G R lm) ∧ WP cd_Mo_quietBy G R lm 56 = stp G R lm (7, 59, 0, 0, nI 400, 0, []) (WP cd_Mo_quietBy G R lm) ∧ WP cd_Mo_quietBy G R lm 59 = stp G R lm (46, 62, 66, 0, 0, 0, []) (WP cd_Mo_quietBy G R lm) ∧ WP cd_Mo_quietBy G R lm 62 = stp G R lm (7, 63, 0, 0, (-1), 0, []) (WP cd_Mo_quietBy G R lm) ∧ WP cd_Mo_quietBy G R lm 63 = stp G R lm (40, 69, 0, 0, 0, 0, []) (WP cd_Mo_quietBy G R lm) ∧ WP cd_Mo_quietBy G R lm 66 = stp G R lm (1, 67, 3, 0, 0, 0, []) (WP cd_Mo_quietBy G R lm) ∧ WP cd_Mo_quietBy G R lm 67 = stp G R lm (7, 68, 0, 0, nI 1, 0, []) (WP cd_Mo_quietBy G R lm) ∧ WP cd_Mo_quietBy G R lm 68 = stp G R lm (12, 69, 0, 0, 0, 0, []) (WP cd_Mo_quietBy G R lm) ∧ WP cd_Mo_quietBy G R lm 69 = stp G R lm (4, 70, 3, 0, 0, 0, []) (WP cd_Mo_quietBy G R lm) ∧ WP cd_Mo_quietBy G R lm 70 = stp G R lm (40, 22, 0, 0, 0, 0, []) (WP cd_Mo_quietBy G R lm) ∧ WP cd_Mo_quietBy G R lm 73 = stp G R lm (7, 74, 0, 0, (-1), 0, []) (WP cd_Mo_quietBy G R lm) ∧ WP cd_Mo_quietBy G R lm 74 = stp G R lm (4, 75, 3, 0, 0, 0, []) (WP cd_Mo_quietBy G R lm) ∧ WP cd_Mo_quietBy G R lm 75 = stp G R lm (40, 22, 0, 0, 0, 0, []) (WP cd_Mo_quietBy G R lm) ∧ WP cd_Mo_quietBy G R lm 78 = stp G R lm (7, 79, 0, 0, nI 0, 0, []) (WP cd_Mo_quietBy G R lm) ∧ WP cd_Mo_quietBy G R lm 79 = stp G R lm (4, 81, 4, 0, 0, 0, []) (WP cd_Mo_quietBy G R lm) ∧ WP cd_Mo_quietBy G R lm 83 = stp G R lm (7, 85, 0, 0, nI 7, 0, []) (WP cd_Mo_quietBy G R lm) ∧ WP cd_Mo_quietBy G R lm 85 = stp G R lm (44, 88, 120, 0, 0, 0, []) (WP cd_Mo_quietBy G R lm) ∧ WP cd_Mo_quietBy G R lm 88 = stp G R lm (2, 89, 0, 0, 0, 0, []) (WP cd_Mo_quietBy G R lm) ∧ WP cd_Mo_quietBy G R lm 89 = stp G R lm (58, 92, 8, 42, 0, 0, []) (WP cd_Mo_quietBy G R lm) ∧ WP cd_Mo_quietBy G R lm 92 = stp G R lm (1, 94, 4, 0, 0, 0, []) (WP cd_Mo_quietBy G R lm) ∧ WP cd_Mo_quietBy G R lm 94 = stp G R lm (1, 95, 3, 0, 0, 0, []) (WP cd_Mo_quietBy G R lm) ∧ WP cd_Mo_quietBy G R lm 95 = stp G R lm (7, 96, 0, 0, (-1), 0, []) (WP cd_Mo_quietBy G R lm) ∧ WP cd_Mo_quietBy G R lm 96 = stp G R lm (42, 99, 103, 0, 0, 0, []) (WP cd_Mo_quietBy G R lm) ∧ WP cd_Mo_quietBy G R lm 99 = stp G R lm (7, 100, 0, 0, (-1), 0, []) (WP cd_Mo_quietBy G R lm) ∧ WP cd_Mo_quietBy G R lm 100 = stp G R lm (40, 113, 0, 0, 0, 0, []) (WP cd_Mo_quietBy G R lm) ∧ WP cd_Mo_quietBy G R lm 103 = stp G R lm (2, 104, 0, 0, 0, 0, []) (WP cd_Mo_quietBy G R lm) ∧ WP cd_Mo_quietBy G R lm 104 = stp G R lm (58, 107, 8, 3, 0, 0, []) (WP cd_Mo_quietBy G R lm) ∧ WP cd_Mo_quietBy G R lm 107 = stp G R lm (1, 109, 4, 0, 0, 0, []) (WP cd_Mo_quietBy G R lm) ∧ WP cd_Mo_quietBy G R lm 109 = stp G R lm (76, 112, 142, 1, 0, 0, []) (WP cd_Mo_quietBy G R lm) ∧ WP cd_Mo_quietBy G R lm 112 = stp G R lm (62, 113, 0, 0, 0, 0, []) (WP cd_Mo_quietBy G R lm) ∧ WP cd_Mo_quietBy G R lm 113 = stp G R lm (66, 114, 0, 0, 0, 0, []) (WP cd_Mo_quietBy G R lm) ∧ WP cd_Mo_quietBy G R lm 114 = stp G R lm (11, 117, 4, 0, nI 1, 0, []) (WP cd_Mo_quietBy G R lm) ∧ WP cd_Mo_quietBy G R lm 117 = stp G R lm (40, 81, 0, 0, 0, 0, []) (WP cd_Mo_quietBy G R lm) ∧ WP cd_Mo_quietBy G R lm 121 = stp G R lm (58, 124, 8, 3, 0, 0, []) (WP cd_Mo_quietBy G R lm) ∧ WP cd_Mo_quietBy G R lm 124 = stp G R lm (7, 125, 0, 0, nI 2, 0, []) (WP cd_Mo_quietBy G R lm) ∧ WP cd_Mo_quietBy G R lm 125 = stp G R lm (1, 126, 2, 0, 0, 0, []) (WP cd_Mo_quietBy G R lm) ∧ WP cd_Mo_quietBy G R lm 126 = stp G R lm (66, 127, 0, 0, 0, 0, []) (WP cd_Mo_quietBy G R lm) ∧ WP cd_Mo_quietBy G R lm 127 = stp G R lm (2, 128, 0, 0, 0, 0, []) (WP cd_Mo_quietBy G R lm) ∧ WP cd_Mo_quietBy G R lm 128 = stp G R lm (7, 130, 0, 0, nI 16, 0, []) (WP cd_Mo_quietBy G R lm) ∧ WP cd_Mo_quietBy G R lm 130 = stp G R lm (86, 133, 136, 1, 0, 0, [8]) (WP cd_Mo_quietBy G R lm) ∧ WP cd_Mo_quietBy G R lm 133 = stp G R lm (1, 134, 3, 0, 0, 0, []) (WP cd_Mo_quietBy G R lm) ∧ WP cd_Mo_quietBy G R lm 134 = stp G R lm (81, 135, 0, 0, 0, 0, []) (WP cd_Mo_quietBy G R lm) := ⟨WP_eq hG rfl, WP_eq hG rfl, WP_eq hG rfl, WP_eq hG rfl, WP_eq hG rfl, WP_eq hG rfl, WP_eq hG rfl, WP_eq hG rfl, WP_eq hG rfl, WP_eq hG rfl, WP_eq hG rfl, WP_eq hG rfl, WP_eq hG rfl, WP_eq hG rfl, WP_eq hG rfl, WP_eq hG rfl, WP_eq hG rfl, WP_eq hG rfl, WP_eq hG rfl, WP_eq hG rfl, WP_eq hG rfl, WP_eq hG rfl, WP_eq hG rfl, WP_eq hG rfl, WP_eq hG rfl, WP_eq hG rfl, WP_eq hG rfl, WP_eq hG rfl, WP_eq hG rfl, WP_eq hG rfl, WP_eq hG rfl, WP_eq hG rfl, WP_eq hG rfl, WP_eq hG rfl, WP_eq hG rfl, WP_eq hG rfl, WP_eq hG rfl, WP_eq hG rfl, WP_eq hG rfl, WP_eq hG rfl, WP_eq hG rfl, WP_eq hG rfl, WP_eq hG rfl, WP_eq hG rfl, WP_eq hG rfl, WP_eq hG rfl, WP_eq hG rfl, WP_eq hG rfl, WP_eq hG rfl, WP_eq hG rfl, WP_eq hG rfl, WP_eq hG rfl, WP_eq hG rfl, WP_eq hG rfl, WP_eq hG rfl, WP_eq hG rfl, WP_eq hG rfl, WP_eq hG rfl, WP_eq hG rfl, WP_eq hG rfl, WP_eq hG rfl, WP_eq hG rfl, WP_eq hG rfl, WP_eq hG rfl, WP_eq hG rfl, WP_eq hG rfl, WP_eq hG rfl, WP_eq hG rfl, WP_eq hG rfl, WP_eq hG rfl, WP_eq hG rfl, WP_eq hG rfl, WP_eq hG rfl⟩
def MQy (h H : MH) : Prop := (hsz H = hsz h ∧ hcc H = hcc h ∧ hcu H = hcu h ∧ SHE h H) ∧ (∀ a, a ≠ 273 → hfi H a = hfi h a) ∧ (∀ k, k ≠ 34 → k ≠ 38 → hfi H 273 k = hfi h 273 k) ∧ (∀ a, a ≠ 275 → hia H a = hia h a) ∧ (∀ a, a ≠ 291 → a ≠ 293 → hja H a = hja h a)
theorem MQy.refl (h : MH) : MQy h h := ⟨⟨rfl, rfl, rfl, SHE.refl h⟩, fun _ _ => rfl, fun _ _ _ => rfl, fun _ _ => rfl, fun _ _ _ => rfl⟩
theorem MQy.trans {a b c : MH} (x : MQy a b) (y : MQy b c) : MQy a c := ⟨⟨y.1.1.trans x.1.1, y.1.2.1.trans x.1.2.1, y.1.2.2.1.trans x.1.2.2.1, x.1.2.2.2.trans y.1.2.2.2⟩, fun p q => (y.2.1 p q).trans (x.2.1 p q), fun p q r => (y.2.2.1 p q r).trans (x.2.2.1 p q r), fun p q => (y.2.2.2.1 p q).trans (x.2.2.2.1 p q), fun p q r => (y.2.2.2.2 p q r).trans (x.2.2.2.2 p q r)⟩
theorem MK.Q {h h1 : MH} (m : MK h h1) : MQy h h1 := by
  obtain ⟨e1, e2, e3, e4, e5⟩ := m.e
  exact ⟨e1, e3, e4, fun a _ => by rw [e2], e5⟩
theorem MQy_ia (h : MH) (f : Nat → Int32) : MQy h (sIA h 275 f) := ⟨(she_ia h 275 f).1, fun _ _ => rfl, fun _ _ _ => rfl, fun a ha => hia_n _ _ ha, fun _ _ _ => rfl⟩
theorem m_l_q (d : Nat) {Lo : Option LWS} {h : MH} (hM : MoS h) (h20 : hfi h 273 20 = nI 0) (lw had : Int32) (Q : RT) (lm : Nat × Nat) (w4 : Option Value) : ∀ (m k : Nat) (q : RW) (H : MH), k + m = 999 → MQy h H → hia H 275 = q → IV q → FO q Lo → RN q → (∀ H' q', MQy h H' → hia H' 275 = q' → LO q q' → (∀ x, qtR Lo m k q = some x → q' = x.2) → WP cd_Mo_quietBy (callD (d + 9)) Q lm 81 [] [some (.ref 273), some (.int lw), some (.int had), some (.int (qtI (qtR Lo m k q))), some (.int (nI 0))] H') → WP cd_Mo_quietBy (callD (d + 9)) Q lm 22 [] [some (.ref 273), some (.int lw), some (.int had), some (.int (nI k)), w4] H := by
  intro m
  induction m with
  | zero =>
    intro k q H e K hp v fo rn kk
    obtain ⟨k8, r2, r3, r4⟩ := (K.1.2.2.2.M hM).row
    have q4 := v.q.2
    have e6 : hia H 275 6 = nI (ql q) := by rw [hp]; exact v.q.1
    have zk := nI_m1 (n := k) (by omega)
    rw [U_Mo_quietBy_22 (cm _)]
    by_cases c : ql q = 0
    · rw [qtR_q Lo 0 k q c] at kk
      have Y := kk H q K hp (fun _ _ => rfl) (fun x hx => by injection hx with hx; rw [← hx])
      simp (disch := omega) only [U_Mo_quietBy (cm _), SA, SB, SC1, SC2, SG, SK, SV, k8, r2, r3, r4, e6, zk, leI, c, Nat.le_refl, nI_clamp, in_eq, Nat.reduceLeDiff, true_or, or_true, true_implies, not_true_eq_false, not_false_eq_true, false_implies, true_and, and_true]
      exact Y
    · rw [qtR_0, if_neg c] at kk
      have Y := kk H q K hp (fun _ _ => rfl) (fun x hx => absurd hx (by simp))
      simp (disch := omega) only [U_Mo_quietBy (cm _), SA, SB, SC1, SC2, SG, SK, SV, k8, r2, r3, r4, e6, zk, leI, show ¬ ql q ≤ 0 by omega, show 999 ≤ k by omega, nI_clamp, in_eq, Nat.reduceLeDiff, true_or, or_true, true_implies, not_true_eq_false, not_false_eq_true, false_implies, true_and, and_true]
      rw [U_Mo_quietBy_22 (cm _)]
      simp (disch := omega) only [U_Mo_quietBy (cm _), SA, SB, SC1, SC2, SG, SK, SV, true_or, or_true, true_implies, not_true_eq_false, not_false_eq_true, false_implies, true_and, and_true]
      exact Y
  | succ m ih =>
    intro k q H e K hp v fo rn kk
    have MH' := K.1.2.2.2.M hM
    obtain ⟨k8, r2, r3, r4⟩ := MH'.row
    have q4 := v.q.2
    have e6 : hia H 275 6 = nI (ql q) := by rw [hp]; exact v.q.1
    have zk := nI_m1 (n := k) (by omega)
    have h20' : hfi H 273 20 = nI 0 := (K.2.2.1 20 (by omega) (by omega)).trans h20
    rw [U_Mo_quietBy_22 (cm _)]
    by_cases c : ql q = 0
    · rw [qtR_q Lo (m + 1) k q c] at kk
      have Y := kk H q K hp (fun _ _ => rfl) (fun x hx => by injection hx with hx; rw [← hx])
      simp (disch := omega) only [U_Mo_quietBy (cm _), SA, SB, SC1, SC2, SG, SK, SV, k8, r2, r3, r4, e6, zk, leI, c, Nat.le_refl, nI_clamp, in_eq, Nat.reduceLeDiff, true_or, or_true, true_implies, not_true_eq_false, not_false_eq_true, false_implies, true_and, and_true]
      exact Y
    · rw [qtR_s, if_neg c] at kk
      obtain ⟨w6, lo, iv2⟩ := dl_ok (Lo := Lo) v (by omega)
      have w416 := w6.2.2.2
      have u := w416.2
      simp (disch := omega) only [U_Mo_quietBy (cm _), SA, SB, SC1, SC2, SG, SK, SV, k8, r2, r3, r4, e6, zk, leI, show ¬ ql q ≤ 0 by omega, show ¬ 999 ≤ k by omega, nI_clamp, in_eq, Nat.reduceLeDiff, true_or, or_true, true_implies, not_true_eq_false, not_false_eq_true, false_implies, true_and, and_true]
      refine m_deliver d MH' hp h20' (v.1.mono (by omega)) fo rn (by omega) _ (fun h1 mk => ?_)
      have K2 := mk.Q.trans (MQy_ia h1 (dl Lo q))
      have i2 := hia_s h1 275 (dl Lo q)
      generalize sIA h1 275 (dl Lo q) = H2 at *
      obtain ⟨k82, u2, u3, u4⟩ := (K2.1.2.2.2.M MH').row
      have e62 : hia H2 275 6 = nI (ql (dl Lo q)) := by rw [i2]; exact w416.1
      by_cases c4 : ql (dl Lo q) ≤ 400
      · rw [if_neg (by omega)] at kk
        simp (disch := omega) only [U_Mo_quietBy (cm _), SA, SB, SC1, SC2, SG, SK, SV, k82, u2, u3, u4, e62, leI, c4, nI_add, nI_clamp, in_eq, Nat.reduceLeDiff, true_or, or_true, true_implies, not_true_eq_false, not_false_eq_true, false_implies, true_and, and_true]
        exact ih (k + 1) (dl Lo q) H2 (by omega) (K.trans K2) i2 (iv2 c4) (FO_lo lo fo) (by obtain ⟨md, m1, m2⟩ := rn; exact ⟨md, m1, (lo 4 (by omega)).trans m2⟩) (fun H' q' a b c d => kk H' q' a b (lo.trans c) d)
      · rw [if_pos (by omega)] at kk
        have Y := kk H2 (dl Lo q) (K.trans K2) i2 lo (fun x hx => absurd hx (by simp))
        simp (disch := omega) only [U_Mo_quietBy (cm _), SA, SB, SC1, SC2, SG, SK, SV, k82, u2, u3, u4, e62, leI, c4, nI_add, nI_clamp, in_eq, Nat.reduceLeDiff, true_or, or_true, true_implies, not_true_eq_false, not_false_eq_true, false_implies, true_and, and_true]
        rw [U_Mo_quietBy_22 (cm _)]
        simp (disch := omega) only [U_Mo_quietBy (cm _), SA, SB, SC1, SC2, SG, SK, SV, true_or, or_true, true_implies, not_true_eq_false, not_false_eq_true, false_implies, true_and, and_true]
        exact Y
/-- what then asks for -/
def thV (r : Option (Nat × RW)) (j : Nat) : Int32 := match r with
  | none => -1
  | some x => gR x.2 j 0
theorem m_l_th (d : Nat) {H : MH} {q : RW} (hM : MoS H) (hp : hia H 275 = q) (lw had : Int32) (r : Option (Nat × RW)) (hr : ∀ x, r = some x → q = x.2 ∧ x.1 ≤ 999) (Q : RT) (lm : Nat × Nat) : ∀ (m k : Nat) (f : Nat → Int32), k + m = 7 → (∀ f' w4, (∀ j, k ≤ j → j < 7 → f' j = thV r j) → (∀ j, j < k → f' j = f j) → WP cd_Mo_quietBy (callD (d + 1)) Q lm 120 [] [some (.ref 273), some (.int lw), some (.int had), some (.int (qtI r)), w4] (sIA H 295 f')) → WP cd_Mo_quietBy (callD (d + 1)) Q lm 81 [] [some (.ref 273), some (.int lw), some (.int had), some (.int (qtI r)), some (.int (nI k))] (sIA H 295 f)
  | 0, k, f, e, K => by
    rw [U_Mo_quietBy_81 (cm _)]
    simp (disch := omega) only [UC_Mo_quietBy_120 (cm _), SA, SB, SC1, SC2, SG, SK, SV, leI, show 7 ≤ k by omega, true_or, or_true, true_implies, not_true_eq_false, not_false_eq_true, false_implies, true_and, and_true]
    exact K f _ (fun j h1 h2 => by omega) (fun j _ => rfl)
  | m + 1, k, f, e, K => by
    have ih := m_l_th d hM hp lw had r hr Q lm m (k + 1) (up1 f k (thV r k)) (by omega) (fun f' w4 h1 h2 => K f' w4 (fun j j1 j2 => by
      by_cases e : j = k
      · subst e; rw [h2 j (by omega), up1_s]
      · exact h1 j (by omega) j2) (fun j hj => by rw [h2 j (by omega), up1_n _ _ (by omega)]))
    obtain ⟨k8, r2, r3, r4⟩ := hM.row
    obtain ⟨s1, s2, s3⟩ := hM.a295
    have RA := fun h Q => e_routerAt d k (by omega) h Q
    have z : hia H 275 (105 + 7 * k) = gR q k 0 := by rw [hp]; rfl
    rw [U_Mo_quietBy_81 (cm _)]
    cases r with
    | none =>
      have i1 : qtI none = -1 := rfl
      have i2 : thV none k = -1 := rfl
      rw [i2] at ih
      rw [i1] at ih ⊢
      simp (disch := omega) only [UC_Mo_quietBy_120 (cm _), SA, SB, SC1, SC2, SG, SK, SV, k8, s1, s2, s3, up1_s, leI, show ¬ 7 ≤ k by omega, nI_add, nI_clamp, in_eq, Nat.reduceLeDiff, true_or, or_true, true_implies, not_true_eq_false, not_false_eq_true, false_implies, true_and, and_true]
      exact ih
    | some x =>
      obtain ⟨e1, e2⟩ := hr x rfl
      have i1 : qtI (some x) = nI x.1 := rfl
      have i2 : thV (some x) k = gR q k 0 := by rw [e1]; rfl
      have zx := nI_m1 (n := x.1) (by omega)
      rw [i2] at ih
      rw [i1] at ih ⊢
      simp (disch := omega) only [UC_Mo_quietBy_120 (cm _), SA, SB, SC1, SC2, SG, SK, SV, k8, r2, r3, r4, s1, s2, s3, RA, z, zx, up1_s, up1_n, leI, show ¬ 7 ≤ k by omega, nI_add, nI_clamp, in_eq, Nat.reduceLeDiff, true_or, or_true, true_implies, not_true_eq_false, not_false_eq_true, false_implies, true_and, and_true]
      exact ih
theorem m_quietBy (d : Nat) (lw : Int32) {Lo : Option LWS} {h : MH} {p : RW} (hM : MoS h) (hp : hia h 275 = p) (h20 : hfi h 273 20 = nI 0) (v : IV p) (rn : RN p) (fo : FO (up1 p 2 lw) Lo) (Q : RT) (kk : ∀ h', KR h h' → (∀ j, j < 7 → hia h' 295 j = thV (qtR Lo 999 0 (up1 p 2 lw)) j) → Q (some (.int (qtI (qtR Lo 999 0 (up1 p 2 lw))))) h') : callD (d + 10) 223 [.ref 273, .int lw] h Q := by
  obtain ⟨k8, r2, r3, r4⟩ := hM.row
  have p2 : hia h 275 2 = p 2 := by rw [hp]
  have KA := fun Q => e_keepAll (d + 8) 16 (by omega) hM Q
  have a1 := she_ia h 278 (cpyF (hia h 278) (hia h 275) (1749 * 16) 5 1749 0)
  have a2 := hia_s h 278 (cpyF (hia h 278) (hia h 275) (1749 * 16) 5 1749 0)
  have a3 : ∀ a, a ≠ 278 → hia (sIA h 278 (cpyF (hia h 278) (hia h 275) (1749 * 16) 5 1749 0)) a = hia h a := fun a ha => hia_n _ _ ha
  have a4 := fi_ia h 278 (cpyF (hia h 278) (hia h 275) (1749 * 16) 5 1749 0)
  generalize sIA h 278 (cpyF (hia h 278) (hia h 275) (1749 * 16) 5 1749 0) = h1 at *
  have M1 := a1.1.2.2.2.M hM
  obtain ⟨k81, u2, u3, u4⟩ := M1.row
  have p1 : hia h1 275 = p := by rw [a3 275 (by omega)]; exact hp
  have b1 := she_ia h1 275 (up1 p 2 lw)
  have b2 := hia_s h1 275 (up1 p 2 lw)
  have b3 : ∀ a, a ≠ 275 → hia (sIA h1 275 (up1 p 2 lw)) a = hia h1 a := fun a ha => hia_n _ _ ha
  have b4 := fi_ia h1 275 (up1 p 2 lw)
  have hb : sIA h1 275 (up1 (hia h1 275) 2 lw) = sIA h1 275 (up1 p 2 lw) := by rw [p1]
  generalize sIA h1 275 (up1 p 2 lw) = h2 at *
  have M2 := b1.1.2.2.2.M M1
  have hq : ∀ j, 5 ≤ j → j < 1754 → up1 p 2 lw j = p j := fun j h1 _ => up1_n _ _ (by omega)
  rw [E_Mo_quietBy]
  simp (disch := omega) only [U_Mo_quietBy (cm _), SA, SB, SC1, SC2, SG, SK, SV, k8, r2, r3, r4, p2, KA, k81, u2, u3, u4, hb, nI_clamp, in_eq, Nat.reduceLeDiff, true_or, or_true, true_implies, not_true_eq_false, not_false_eq_true, false_implies, true_and, and_true]
  refine m_l_q d M2 (by rw [b4, a4]; exact h20) lw (p 2) Q _ _ 999 0 (up1 p 2 lw) h2 (by omega) (MQy.refl h2) b2 (IV_c hq v) fo (by obtain ⟨md, m1, m2⟩ := rn; exact ⟨md, m1, (up1_n _ _ (by omega)).trans m2⟩) (fun H' q' mq iq lo res => ?_)
  have le := fun x hx => qtR_le Lo 999 0 (up1 p 2 lw) x hx
  generalize qtR Lo 999 0 (up1 p 2 lw) = R at *
  have M3 := mq.1.2.2.2.M M2
  have L := fun lm K => m_l_th (d + 8) M3 iq lw (p 2) R (fun x hx => ⟨res x hx, by have := le x hx; omega⟩) Q lm 7 0 (hia H' 295) (by omega) K
  rw [sIA_id] at L
  refine L _ (fun f' w4 hf _ => ?_)
  clear L
  have c1 := she_ia H' 295 f'
  have c2 := hia_s H' 295 f'
  have c3 : ∀ a, a ≠ 295 → hia (sIA H' 295 f') a = hia H' a := fun a ha => hia_n _ _ ha
  have c4 := fi_ia H' 295 f'
  generalize sIA H' 295 f' = h3 at *
  have M3' := c1.1.2.2.2.M M3
  obtain ⟨k83, v2, v3, v4⟩ := M3'.row
  have q3 : hia h3 275 = q' := by rw [c3 275 (by omega)]; exact iq
  have d1 := she_ia h3 275 (up1 q' 2 (p 2))
  have d2 := hia_s h3 275 (up1 q' 2 (p 2))
  have d3 : ∀ a, a ≠ 275 → hia (sIA h3 275 (up1 q' 2 (p 2))) a = hia h3 a := fun a ha => hia_n _ _ ha
  have d4 := fi_ia h3 275 (up1 q' 2 (p 2))
  have hd : sIA h3 275 (up1 (hia h3 275) 2 (p 2)) = sIA h3 275 (up1 q' 2 (p 2)) := by rw [q3]
  generalize sIA h3 275 (up1 q' 2 (p 2)) = h4 at *
  have M4 := d1.1.2.2.2.M M3'
  have k84 := M4.1
  have PB := fun Q => e_putBack (d + 8) 16 (by omega) M4 Q
  have s278 : hia h4 278 = cpyF (hia h 278) (hia h 275) (1749 * 16) 5 1749 0 := by rw [d3 278 (by omega), c3 278 (by omega), mq.2.2.2.1 278 (by omega), b3 278 (by omega), a2]
  have e1 := she_ia h4 275 (cpyF (hia h4 275) (hia h4 278) 5 (1749 * 16) 1749 0)
  have e2 := hia_s h4 275 (cpyF (hia h4 275) (hia h4 278) 5 (1749 * 16) 1749 0)
  have e3 : ∀ a, a ≠ 275 → hia (sIA h4 275 (cpyF (hia h4 275) (hia h4 278) 5 (1749 * 16) 1749 0)) a = hia h4 a := fun a ha => hia_n _ _ ha
  have e4 := fi_ia h4 275 (cpyF (hia h4 275) (hia h4 278) 5 (1749 * 16) 1749 0)
  generalize sIA h4 275 (cpyF (hia h4 275) (hia h4 278) 5 (1749 * 16) 1749 0) = h5 at *
  have Y := kk h5 ⟨?_, ?_, ?_, ?_, ?_, ?_, ?_, ?_⟩ (fun j hj => by rw [e3 295 (by omega), d3 295 (by omega), c2]; exact hf j (by omega) hj)
  · simp (disch := omega) only [U_Mo_quietBy (cm _), SA, SB, SC1, SC2, SG, SK, SV, k83, v2, v3, v4, hd, k84, PB, nI_clamp, in_eq, Nat.reduceLeDiff, true_or, or_true, true_implies, not_true_eq_false, not_false_eq_true, false_implies, true_and, and_true]
    exact Y
  · exact ⟨by rw [e1.1.1, d1.1.1, c1.1.1, mq.1.1, b1.1.1, a1.1.1], by rw [e1.1.2.1, d1.1.2.1, c1.1.2.1, mq.1.2.1, b1.1.2.1, a1.1.2.1], by rw [e1.1.2.2.1, d1.1.2.2.1, c1.1.2.2.1, mq.1.2.2.1, b1.1.2.2.1, a1.1.2.2.1], ((((a1.1.2.2.2.trans b1.1.2.2.2).trans mq.1.2.2.2).trans c1.1.2.2.2).trans d1.1.2.2.2).trans e1.1.2.2.2⟩
  · exact fun a ha _ _ _ _ => by rw [e4, d4, c4, mq.2.1 a ha, b4, a4]
  · exact ⟨by rw [e4, d4, c4, mq.2.1 213 (by omega), b4, a4], by rw [e4, d4, c4, mq.2.1 214 (by omega), b4, a4]⟩
  · exact fun k hk => by rw [e4, d4, c4, mq.2.2.1 k (by omega) (by omega), b4, a4]
  · exact fun a ns h1 => by
      have n295 : a ≠ 295 := fun z => ns (by rw [z]; unfold scr; omega)
      have n278 : a ≠ 278 := fun z => ns (by rw [z]; unfold scr; omega)
      rw [e3 a h1, d3 a h1, c3 a n295, mq.2.2.2.1 a h1, b3 a h1, a3 a n278]
  · exact fun a ha => by rw [e1.2, d1.2, c1.2, mq.2.2.2.2 a (by omega) (by omega), b1.2, a1.2]
  · exact fun x hx => by
      rw [e3 278 (by omega), s278]
      unfold cpyF
      rw [if_neg (by omega)]
  · exact fun j hj => by
      rw [e2, s278, d2, hp]
      unfold cpyF
      by_cases c : 5 ≤ j ∧ j < 5 + 1749
      · rw [if_pos (by omega), if_pos (by omega), show 5 + (1749 * 16 + (j - 5) - 1749 * 16) = j by omega]
      · rw [if_neg (by omega)]
        by_cases z2 : j = 2
        · subst z2; rw [up1_s]
        · rw [up1_n _ _ z2, lo j (by omega), up1_n _ _ z2]
