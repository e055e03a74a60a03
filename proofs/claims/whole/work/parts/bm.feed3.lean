/-! ===== feed, the pair ===== -/
def tk5 (T : TP) (a b c d e : Int32) : TP := tk4 (tk4 (tk4 (tk4 (tk4 T a) b) c) d) e
theorem tk5_n (T : TP) (a b c d e : Int32) : (tk5 T a b c d e).2 = T.2 + 20 := rfl
theorem feed_fin {h h1 h2 h3 : MH} {T : TP} (g : GI h) (x : TkX h h1 T) (hh : thH h1 = h2) (m : TkM h2 h3 T) : Pst h h3 := by
  obtain ⟨⟨⟨a1, a2, a3, a4⟩, a5⟩, a6, a7, a8, a9⟩ := x
  have kt := KP_th h1
  have t1 : hia (thH h1) = hia h1 := ia_fi _ _ _
  have t2 : ∀ k, k ≠ 0 → hfi (thH h1) 273 k = hfi h1 273 k := fun k hk => by unfold thH; rw [hfi_s, up1_n _ _ hk]
  have t3 : ∀ a, a ≠ 273 → hfi (thH h1) a = hfi h1 a := fun a ha => by unfold thH; exact hfi_nn _ _ ha
  have t4 : hja (thH h1) = hja h1 := (she_fi _ _ _).2
  rw [hh] at kt t1 t2 t3 t4
  obtain ⟨⟨c1, c2, c3, c4⟩, -⟩ := kt
  obtain ⟨⟨⟨e1, e2, e3, e4⟩, e5⟩, e6, e7, e8, e9, e10⟩ := m
  have FI : ∀ a, a ≠ 214 → a ≠ 273 → hfi h3 a = hfi h a := fun a z1 z2 => by rw [e6 a z2, t3 a z2, a6 a z1]
  have CI : ∀ a, a ≠ 215 → a ≠ 282 → hia h3 a = hia h a := fun a z1 z2 => by rw [e8 a z2, t1, a7 a z1]
  have FM : ∀ k, k ≠ 0 → k ≠ 13 → hfi h3 273 k = hfi h 273 k := fun k z0 z1 => by rw [e7 k z1, t2 k z0, a6 273 (by omega)]
  have KK : KTp h h3 := ⟨⟨by rw [e1, c1, a1], by rw [e2, c2, a2], by rw [e3, c3, a3], (a4.trans c4).trans e4⟩, fun a z1 _ _ _ z2 _ => FI a z2 z1, ⟨by rw [FI 24 (by omega) (by omega)], by rw [FI 24 (by omega) (by omega)]⟩, ⟨FM 8 (by omega) (by omega), FM 52 (by omega) (by omega)⟩, fun a _ _ _ z1 z2 => CI a z1 z2, fun a _ => by rw [e5, t4, a5], fun y _ => by rw [CI 278 (by omega) (by omega)]⟩
  refine Pst_e (GI_kt KK ?_ ⟨T, ?_, e9, ?_, e10⟩ g) KK.E
  · have cv := g.2.2.2.2.2.2.1
    unfold CtV at *
    rw [CI 244 (by omega) (by omega), CI 274 (by omega) (by omega), FI 24 (by omega) (by omega), FI 213 (by omega) (by omega), FM 1 (by omega) (by omega), FM 11 (by omega) (by omega), FM 48 (by omega) (by omega), FM 18 (by omega) (by omega), FM 20 (by omega) (by omega)]
    exact cv
  · rw [e8 215 (by omega), t1]; exact a8
  · rw [e6 214 (by omega), t3 214 (by omega)]; exact a9
theorem op_feed (a b c e f : Int32) : PairOp 2 83 161 [.int a, .int b, .int c, .int e, .int f] := fun d h g => by
  have so := g.1.1
  have sr0 := g.1.2.1
  have sr := sr0
  unfold XSo at so
  unfold XSr at sr
  have hM := g.2.1.1
  have k8 := hM.1
  obtain ⟨T, t⟩ := g.2.2.2.2.2.2.2.1
  obtain ⟨t1, t2, t3, t4⟩ := t
  have hT := t1.1
  rw [E_Di_feed]
  by_cases rm : T.2 + 20 ≤ 400
  · have HR : ∀ Q, callD (d + 1) 64 [.ref 214] h Q = Q (some (.int (nI 1))) h := fun Q => by
      rw [E_Ta_hasRoom]
      simp (disch := omega) only [U_Ta_hasRoom (cm _), SA, SB, SG, SV, sr, t3, nI_add, ltI, show ¬ 400 < T.2 + 20 by omega, true_or, or_true, true_implies, not_true_eq_false, not_false_eq_true, false_implies, true_and, and_true]
    simp (disch := omega) only [U_Di_feed (cm _), SA, SB, SC1, SC2, SG, SK, SV, so, sr, HR, eqI, Nat.one_ne_zero, true_implies, not_true_eq_false, not_false_eq_true, false_implies, true_and, and_true]
    refine x_takes d a sr0 t1 t3 (by omega) _ (fun h1 x1 => ?_)
    have s1 := XSr_e x1.1.1.2.2.2 sr0
    have s1' := s1
    unfold XSr at s1'
    have n1 := tk4_n T a
    simp (disch := omega) only [U_Di_feed (cm _), SA, SB, SC1, SC2, SG, SK, SV, s1', true_and]
    refine x_takes d b s1 x1.2.2.2.1 x1.2.2.2.2 (by omega) _ (fun h2 x2 => ?_)
    have s2 := XSr_e x2.1.1.2.2.2 s1
    have s2' := s2
    unfold XSr at s2'
    have n2 := tk4_n (tk4 T a) b
    simp (disch := omega) only [U_Di_feed (cm _), SA, SB, SC1, SC2, SG, SK, SV, s2', true_and]
    refine x_takes d c s2 x2.2.2.2.1 x2.2.2.2.2 (by omega) _ (fun h3 x3 => ?_)
    have s3 := XSr_e x3.1.1.2.2.2 s2
    have s3' := s3
    unfold XSr at s3'
    have n3 := tk4_n (tk4 (tk4 T a) b) c
    simp (disch := omega) only [U_Di_feed (cm _), SA, SB, SC1, SC2, SG, SK, SV, s3', true_and]
    refine x_takes d e s3 x3.2.2.2.1 x3.2.2.2.2 (by omega) _ (fun h4 x4 => ?_)
    have s4 := XSr_e x4.1.1.2.2.2 s3
    have s4' := s4
    unfold XSr at s4'
    have n4 := tk4_n (tk4 (tk4 (tk4 T a) b) c) e
    simp (disch := omega) only [U_Di_feed (cm _), SA, SB, SC1, SC2, SG, SK, SV, s4', true_and]
    refine x_takes d f s4 x4.2.2.2.1 x4.2.2.2.2 (by omega) _ (fun h5 x5 => ?_)
    have s5 := XSr_e x5.1.1.2.2.2 s4
    have s5' := s5
    unfold XSr at s5'
    have n5 := tk4_n (tk4 (tk4 (tk4 (tk4 T a) b) c) e) f
    have X := ((((x1.trans x2).trans x3).trans x4).trans x5)
    have l5 : hfi h5 214 1 = nI (T.2 + 20) := by rw [x5.2.2.2.2]; rfl
    simp (disch := omega) only [U_Di_feed (cm _), SA, SB, SC1, SC2, SG, SK, SV, s5', l5, true_and]
    refine ⟨_, rfl, ?_⟩
    have M5 : MoS h5 := X.1.1.2.2.2.M hM
    have i282 : hia h5 282 = hia h 282 := X.2.2.1 282 (by omega)
    have f13 : hfi h5 273 13 = nI T.2 := by rw [X.2.1 273 (by omega)]; exact t4
    clear x1 x2 x3 x4 x5 s1 s2 s3 s4 s5 s1' s2' s3' s4' s5' n1 n2 n3 n4 n5 l5
    obtain ⟨hM6, ei, ef, -⟩ := thM M5
    have k85 := M5.1
    generalize hh : thH h5 = h6 at *
    have hh' := hh
    unfold thH at hh'
    have k86 := hM6.1
    have g13 : hfi h6 273 13 = nI T.2 := by rw [ef 13 (by omega)]; exact f13
    have u6 : TB (hia h6 282) T := by rw [ei, i282]; exact t2
    rw [E_Mo_feed]
    simp (disch := omega) only [U_Mo_feed (cm _), SA, SB, SC1, SC2, SG, SK, SV, hh', k85, k86, g13, nI_add, leI, rm, true_implies, not_true_eq_false, not_false_eq_true, false_implies, true_and, and_true]
    refine m_four d a hM6 u6 g13 (by omega) _ (fun g1 y1 => ?_)
    have w1 := y1.1.1.2.2.2.M hM6
    have v1 := w1.1
    have n1 := tk4_n T a
    simp (disch := omega) only [U_Mo_feed (cm _), SA, SB, SC1, SC2, SG, SK, SV, v1, true_and]
    refine m_four d b w1 y1.2.2.2.2.1 y1.2.2.2.2.2 (by omega) _ (fun g2 y2 => ?_)
    have w2 := y2.1.1.2.2.2.M w1
    have v2 := w2.1
    have n2 := tk4_n (tk4 T a) b
    simp (disch := omega) only [U_Mo_feed (cm _), SA, SB, SC1, SC2, SG, SK, SV, v2, true_and]
    refine m_four d c w2 y2.2.2.2.2.1 y2.2.2.2.2.2 (by omega) _ (fun g3 y3 => ?_)
    have w3 := y3.1.1.2.2.2.M w2
    have v3 := w3.1
    have n3 := tk4_n (tk4 (tk4 T a) b) c
    simp (disch := omega) only [U_Mo_feed (cm _), SA, SB, SC1, SC2, SG, SK, SV, v3, true_and]
    refine m_four d e w3 y3.2.2.2.2.1 y3.2.2.2.2.2 (by omega) _ (fun g4 y4 => ?_)
    have w4 := y4.1.1.2.2.2.M w3
    have v4 := w4.1
    have n4 := tk4_n (tk4 (tk4 (tk4 T a) b) c) e
    simp (disch := omega) only [U_Mo_feed (cm _), SA, SB, SC1, SC2, SG, SK, SV, v4, true_and]
    refine m_four d f w4 y4.2.2.2.2.1 y4.2.2.2.2.2 (by omega) _ (fun g5 y5 => ?_)
    have w5 := y5.1.1.2.2.2.M w4
    have v5 := w5.1
    have n5 := tk4_n (tk4 (tk4 (tk4 (tk4 T a) b) c) e) f
    have Z := feed_fin g X hh ((((y1.trans y2).trans y3).trans y4).trans y5)
    have l5 : hfi g5 273 13 = nI (T.2 + 20) := by rw [y5.2.2.2.2.2]; rfl
    simp (disch := omega) only [U_Mo_feed (cm _), SA, SB, SC1, SC2, SG, SK, SV, v5, l5, true_and]
    exact Z
  · have HR : ∀ Q, callD (d + 1) 64 [.ref 214] h Q = Q (some (.int (nI 0))) h := fun Q => by
      rw [E_Ta_hasRoom]
      simp (disch := omega) only [U_Ta_hasRoom (cm _), SA, SB, SG, SV, sr, t3, nI_add, ltI, show 400 < T.2 + 20 by omega, true_or, or_true, true_implies, not_true_eq_false, not_false_eq_true, false_implies, true_and, and_true]
    simp (disch := omega) only [U_Di_feed (cm _), SA, SB, SC1, SC2, SG, SK, SV, so, sr, HR, eqI, Nat.one_ne_zero, true_implies, not_true_eq_false, not_false_eq_true, false_implies, true_and, and_true]
    refine ⟨_, rfl, ?_⟩
    obtain ⟨hM6, ei, ef, kp⟩ := thM hM
    generalize hh : thH h = h6 at *
    unfold thH at hh
    have g13 : hfi h6 273 13 = nI T.2 := by rw [ef 13 (by omega)]; exact t4
    have k86 := hM6.1
    rw [E_Mo_feed]
    simp (disch := omega) only [U_Mo_feed (cm _), SA, SB, SC1, SC2, SG, SK, SV, hh, k8, k86, g13, nI_add, leI, rm, true_implies, not_true_eq_false, not_false_eq_true, false_implies, true_and, and_true]
    exact Pst_e (GI_kp kp g) kp.E
