/-! ===== law: the pair ===== -/
theorem TpV_0 {F : MH} {T : TP} (a : hfi F 214 1 = nI 0) (b : hfi F 273 13 = nI 0) : TpV F (T.1, 0) := ⟨⟨by show 0 ≤ 400; omega, fun i hi => absurd hi (Nat.not_lt_zero i)⟩, ⟨by show 0 ≤ 400; omega, fun i hi => absurd hi (Nat.not_lt_zero i)⟩, a, b⟩
/-- only what room was used is told anew -/
def SCg (h F : MH) (c u : Nat) : Prop := (hsz F = hsz h ∧ SHE h F ∧ hfi F = hfi h ∧ hia F = hia h ∧ hja F = hja h) ∧ hcc F = c ∧ hcu F = u
theorem sc_g (h : MH) (c u : Nat) : SCg h (sCC h c u) c u := ⟨⟨rfl, SHE.refl h, rfl, rfl, rfl⟩, rfl, rfl⟩
theorem SCg.L {h F : MH} {c u : Nat} (x : SCg h F c u) : LF h F := by
  obtain ⟨⟨x1, x2, x3, x4, x5⟩, -⟩ := x
  exact ⟨by rw [x1]; exact Nat.le_refl _, fun y _ => ⟨by rw [x2.1], by rw [x2.2.1], by rw [x2.2.2.1], fun _ => by rw [x2.2.2.2]⟩, fun y _ _ _ _ _ _ => by rw [x3], fun k _ => by rw [x3], fun k _ => by rw [x3], fun y _ _ _ _ _ _ _ _ => by rw [x4], fun a _ => by rw [x5]⟩
/-- refused by both, the tape empty -/
theorem GI_lrf {h h2 h3 h3c F : MH} {T : TP} {k : Nat} (hk : k = 5 ∨ k = 6) (g : GI h) (L2 : LF h h2) (f25 : hfi h2 25 = hfi h 25) (r36 : hra h2 36 = hra h 36) (i244 : hia h2 244 = hia h 244) (i274 : hia h2 274 = hia h 274) (i275 : hia h2 275 = hia h 275) (f24 : hfi h2 24 = hfi h 24) (f214 : hfi h2 214 1 = nI 0) (e3 : xrH h2 (rfV k) (rfX k) = h3) (sc : SCg h3 h3c (hcc h + 3) (hcu h + 899)) (m : MLF h3c F) (m1 : hfi F 273 1 = rfV k) (m13 : hfi F 273 13 = nI 0) (m20 : hfi F 273 20 = nI 0) (m18 : hfi F 273 18 = hfi h2 213 6) (m275 : hia F 275 = hia h3c 275) (m274 : hia F 274 = up1 (hia h3c 274) k (hia h3c 274 k + nI 1)) : Pst h F := by
  have hz := g.2.2.1
  have KX := KQ_xr h2 (rfV k) (rfX k)
  obtain ⟨x1, x2, x3, x4, x5⟩ := xr_g h2 (rfV k) (rfX k)
  have L3 : LF h2 h3 := by
    rw [← e3]
    exact LF_she KX.1 (fun a _ => rfl) (fun y a _ _ _ _ => x4 y a) (fun k hk => by rw [x3, up1_n _ _ hk]) (fun k _ => by rw [x4 273 (by omega)]) (fun y _ _ a _ _ _ _ => x5 y a)
  have KX1 := KX.1
  rw [e3] at x1 x2 x3 x4 x5 KX1
  have L : LF h F := ((L2.trans L3).trans sc.L).trans m.L
  obtain ⟨⟨sc1, sc2, sc3, sc4, sc5⟩, sc6, sc7⟩ := sc
  rw [← sc4] at x1 x2
  simp only [← sc4] at x5
  rw [← sc3] at x3
  simp only [← sc3] at x4
  obtain ⟨⟨y1, y2, y3, y4, y5⟩, y6, y7, y8, y9⟩ := m
  have FI : ∀ a, a ≠ 273 → a ≠ 24 → hfi F a = hfi h2 a := fun a z1 z2 => by rw [(y6 a z1).1, x4 a z2]
  have g24 : hfi F 24 = up1 (hfi h 24) 13 (rfV k) := by rw [(y6 24 (by omega)).1, x3, f24]
  have g244 : hia F 244 = up1 (hia h 244) (rfX k) (hia h 244 (rfX k) + nI 1) := by rw [y7 244 (by omega) (by omega) (by omega), x1, i244]
  have g274 : hia F 274 = up1 (hia h 274) k (hia h 274 k + nI 1) := by rw [m274, x2, i274]
  have g275 : hia F 275 = hia h 275 := by rw [m275, x5 275 (by omega), i275]
  have gr : hra F 36 = hra h 36 := by rw [y4.2.2.2, sc2.2.2.2, KX1.2.2.2.2.2.2, r36]
  obtain ⟨q1, q6, q7, q8, q9, q10⟩ := g.2.2.2.2.2.2.1
  have W : WV F 25 (hia F 275) := by
    rw [g275]
    exact WV_lf L hz (by rw [FI 25 (by omega) (by omega), f25]) gr g.2.2.2.1
  refine ⟨GI_lf L g W ⟨cc_ref (by omega) g244 g274 q1, by rw [g24, up1_s, m1], by rw [g24, up1_n _ _ (by omega), L.2.2.2.2.1 11 (by omega)]; exact q7, by rw [g24, up1_n _ _ (by omega), L.2.2.2.2.1 48 (by omega)]; exact q8, by rw [FI 213 (by omega) (by omega), m18], m20⟩ ⟨(T.1, 0), TpV_0 (by rw [FI 214 (by omega) (by omega)]; exact f214) m13⟩, ⟨by rw [y2, sc6]; exact Nat.le_refl _, by rw [y3, sc7]; exact Nat.le_refl _⟩, (L.2.1 0 (by omega)).1, (L.2.1 0 (by omega)).2.1, L.2.2.2.2.2.1 0 (by omega) (by omega) (by omega) (by omega) (by omega) (by omega) (by omega) (by omega), fun la => LA_lf L hz (fun i _ => Or.inl (by rw [gr])) la⟩
theorem op_law : PairOp 168 87 190 [] := fun d h g => by
  obtain ⟨V, iv, ⟨w4, w5, w6, w7, w8⟩, ⟨f, l1, l2, l3, l4⟩, sn, rn, sl⟩ := g.2.2.2.1
  obtain ⟨T, t1, t2, t3, t4⟩ := g.2.2.2.2.2.2.2.1
  have hz := g.2.2.1
  have s := g.1
  have so := (s).1
  unfold XSo at so
  have sw := WoS_25 (s)
  unfold WoS at sw
  simp only [Nat.reduceAdd] at sw
  have sr := s.2.1
  have sr' := sr
  unfold XSr at sr'
  have w4' := w4.trans l2
  have ct := g.2.2.2.2.2.2.1
  -- the reference, on a heap that is as h in what it reads
  have ML : ∀ (h3 : MH) (Q : RT), LF h h3 → hia h3 275 = hia h 275 → hia h3 282 = hia h 282 → hfi h3 273 = hfi h 273 →
    (f = 6 → ∀ h', MLF h3 h' → hfi h' 273 0 = nI 0 → hfi h' 273 1 = -5 → hfi h' 273 13 = nI 0 → hfi h' 273 20 = nI 0 → hfi h' 273 18 = hfi h3 273 18 → hia h' 275 = hia h3 275 → hia h' 274 = up1 (hia h3 274) 5 (hia h3 274 5 + nI 1) → Q (some (.int (-5))) h') →
    (f < 6 → ∀ e, pTx T 0 12 0 0 = .error e → ∀ h', MLF h3 h' → hfi h' 273 0 = nI 0 → hfi h' 273 1 = -6 → hfi h' 273 13 = nI 0 → hfi h' 273 20 = nI 0 → hfi h' 273 18 = nI e → hia h' 275 = hia h3 275 → hia h' 274 = up1 (hia h3 274) 6 (hia h3 274 6 + nI 1) → Q (some (.int (-6))) h') →
    (f < 6 → ∀ cs, pTx T 0 12 0 0 = .ok cs → ∀ h' P, MLF h3 h' → hfi h' 273 0 = nI 0 → hfi h' 273 1 = nI 0 → hfi h' 273 13 = nI 0 → hfi h' 273 20 = nI 0 → hfi h' 273 18 = -1 → hia h' 275 = P → TX P f (LWof cs) → P 1 = nI (f + 1) → (∀ x, x ≠ 1 → (x < 2022 + 900 * f ∨ 2022 + 900 * (f + 1) ≤ x) → P x = hia h3 275 x) → hia h' 274 = hia h3 274 → Q (some (.int (nI f))) h') → callD (d + 168) 190 [.ref 273] h3 Q := fun h3 Q L e275 e282 e273 K6 KE KO => by
    have ki := L.KI hz
    exact m_law (d + 159) f l1 (ki.2.2.1 g.2.1.1) (WDM_a ki.2.2.2.1 g.2.1.2.1) (HDM_a ki.2.2.2.1 g.2.1.2.2) (by rw [e282]; exact t2) (by rw [e273]; exact t4) (by rw [e273]; exact ct.2.2.2.2.2) (by rw [e275]; exact l2) Q K6 KE KO
  rw [E_Di_law]
  by_cases c6 : f = 6
  · have cx : ¬ f < 6 := by omega
    obtain ⟨-, a2, -, a4, a5⟩ := fi_g h 214 (up1 (hfi h 214) 1 (nI 0))
    have as := she_fi h 214 (up1 (hfi h 214) 1 (nI 0))
    generalize ha : sFI h 214 (up1 (hfi h 214) 1 (nI 0)) = h2 at *
    have s2 := XS_e as.1.2.2.2 s
    have k72 := s2.1.1
    have R := fun Q => x_refused (d + 166) 5 (by omega) s2 Q
    have e5 : rfV 5 = -5 := by decide
    have KX := KQ_xr h2 (rfV 5) (rfX 5)
    obtain ⟨x1, x2, x3, x4, x5⟩ := xr_g h2 (rfV 5) (rfX 5)
    have L2 : LF h h2 := LF_she as.1 (fun a _ => by rw [as.2]) (fun y _ _ _ b _ => a5 y b) (fun k _ => by rw [a5 24 (by omega)]) (fun k _ => by rw [a5 273 (by omega)]) (fun y _ _ _ _ _ _ _ => by rw [a2])
    have L3 := L2.trans (LF_she KX.1 (fun a _ => rfl) (fun y a _ _ _ _ => x4 y a) (fun k hk => by rw [x3, up1_n _ _ hk]) (fun k _ => by rw [x4 273 (by omega)]) (fun y _ _ a _ _ _ _ => x5 y a))
    rw [e5] at R
    generalize h3e : xrH h2 (rfV 5) (rfX 5) = h3 at *
    rw [e5] at h3e
    rw [h3e] at R
    simp (disch := omega) only [U_Di_law (cm _), SA, SB, SC1, SC2, SG, SK, SV, so, sw, sr', w4', ltI, cx, ha, k72, R, Nat.reduceLeDiff, true_or, or_true, true_implies, not_true_eq_false, not_false_eq_true, false_implies, true_and, and_true]
    refine ⟨_, rfl, ?_⟩
    have sc := sc_g h3 (hcc h + 3) (hcu h + 899)
    generalize sCC h3 (hcc h + 3) (hcu h + 899) = h3c at *
    refine ML h3c _ (L3.trans sc.L) (by rw [sc.1.2.2.2.1, x5 275 (by omega), a2]) (by rw [sc.1.2.2.2.1, x5 282 (by omega), a2]) (by rw [sc.1.2.2.1, x4 273 (by omega), a5 273 (by omega)]) (fun _ F m m0 m1 m13 m20 m18 m275 m274 => ⟨rfl, ?_⟩) (fun z => absurd z cx) (fun z => absurd z cx)
    exact GI_lrf (T := T) (k := 5) (by omega) g L2 (a5 25 (by omega)) (by rw [as.1.2.2.2.2.2.2]) (by rw [a2]) (by rw [a2]) (by rw [a2]) (a5 24 (by omega)) (by rw [a4, up1_s]) (by rw [e5]; exact h3e) sc m (by rw [e5]; exact m1) m13 m20 (by rw [m18, sc.1.2.2.1, x4 273 (by omega), a5 273 (by omega), a5 213 (by omega)]; exact ct.2.2.2.2.1.symm) m275 m274
  · have cx : f < 6 := by omega
    have k213 := sr'.1
    simp (disch := omega) only [U_Di_law (cm _), SA, SB, SC1, SC2, SG, SK, SV, so, sw, w4', k213, ltI, cx, Nat.le_refl, true_or, or_true, true_implies, not_true_eq_false, not_false_eq_true, false_implies, true_and, and_true]
    refine x_reads d (om := 0) (by omega) sr t1 t3 hz _ ?_
    cases hpt : pTx T 0 12 0 0 with
    | error e =>
      intro h1 xa fa
      have L1 := xa.L hz
      have s1 := (L1.KI hz).2.1 s
      have so1 := s1.1
      unfold XSo at so1
      have sr1 := s1.2.1
      unfold XSr at sr1
      obtain ⟨-, a2, -, a4, a5⟩ := fi_g h1 214 (up1 (hfi h1 214) 1 (nI 0))
      have as := she_fi h1 214 (up1 (hfi h1 214) 1 (nI 0))
      generalize ha : sFI h1 214 (up1 (hfi h1 214) 1 (nI 0)) = h2 at *
      have s2 := XS_e as.1.2.2.2 s1
      have k72 := s2.1.1
      have R := fun Q => x_refused (d + 166) 6 (by omega) s2 Q
      have e5 : rfV 6 = -6 := by decide
      have KX := KQ_xr h2 (rfV 6) (rfX 6)
      obtain ⟨x1, x2, x3, x4, x5⟩ := xr_g h2 (rfV 6) (rfX 6)
      have L2 : LF h h2 := L1.trans (LF_she as.1 (fun a _ => by rw [as.2]) (fun y _ _ _ b _ => a5 y b) (fun k _ => by rw [a5 24 (by omega)]) (fun k _ => by rw [a5 273 (by omega)]) (fun y _ _ _ _ _ _ _ => by rw [a2]))
      have L3 := L2.trans (LF_she KX.1 (fun a _ => rfl) (fun y a _ _ _ _ => x4 y a) (fun k hk => by rw [x3, up1_n _ _ hk]) (fun k _ => by rw [x4 273 (by omega)]) (fun y _ _ a _ _ _ _ => x5 y a))
      rw [e5] at R
      generalize h3e : xrH h2 (rfV 6) (rfX 6) = h3 at *
      rw [e5] at h3e
      rw [h3e] at R
      have I1 : ∀ x, x < 300 → x ≠ 216 → x ≠ 217 → hia h1 x = hia h x := fun x hx y1 y2 => (xa.2.1 x (by omega)).2.2 y1 y2
      have F1 : ∀ x, x < 300 → x ≠ 213 → x ≠ 214 → hfi h1 x = hfi h x := fun x hx y1 y2 => (xa.2.1 x (by omega)).2.1 y1 y2
      simp (disch := omega) only [U_Di_law (cm _), SA, SB, SC1, SC2, SG, SK, SV, so1, sr1, ha, k72, R, Nat.reduceLeDiff, true_or, or_true, true_implies, not_true_eq_false, not_false_eq_true, false_implies, true_and, and_true]
      refine ⟨_, rfl, ?_⟩
      have sc := sc_g h3 (hcc h + 3) (hcu h + 899)
      generalize sCC h3 (hcc h + 3) (hcu h + 899) = h3c at *
      refine ML h3c _ (L3.trans sc.L) (by rw [sc.1.2.2.2.1, x5 275 (by omega), a2, I1 275 (by omega) (by omega) (by omega)]) (by rw [sc.1.2.2.2.1, x5 282 (by omega), a2, I1 282 (by omega) (by omega) (by omega)]) (by rw [sc.1.2.2.1, x4 273 (by omega), a5 273 (by omega), F1 273 (by omega) (by omega) (by omega)]) (fun z => absurd z c6) (fun _ e' he F m m0 m1 m13 m20 m18 m275 m274 => ⟨rfl, ?_⟩) (fun _ cs hcs => by rw [hpt] at hcs; cases hcs)
      have ee : e' = e := by rw [hpt] at he; injection he with he; exact he.symm
      subst ee
      exact GI_lrf (T := T) (k := 6) (by omega) g L2 (by rw [a5 25 (by omega), F1 25 (by omega) (by omega) (by omega)]) (by rw [as.1.2.2.2.2.2.2, (xa.2.1 36 (by omega)).1.2.2.2.1]) (by rw [a2, I1 244 (by omega) (by omega) (by omega)]) (by rw [a2, I1 274 (by omega) (by omega) (by omega)]) (by rw [a2, I1 275 (by omega) (by omega) (by omega)]) (by rw [a5 24 (by omega), F1 24 (by omega) (by omega) (by omega)]) (by rw [a4, up1_s]) (by rw [e5]; exact h3e) sc m (by rw [e5]; exact m1) m13 m20 (by rw [m18, a5 213 (by omega), fa]) m275 m274
    | ok cs =>
      intro h1 xa fa px
      have L1 := xa.L hz
      have s1 := (L1.KI hz).2.1 s
      have so1 := s1.1
      unfold XSo at so1
      have sw1 := WoS_25 s1
      unfold WoS at sw1
      simp only [Nat.reduceAdd] at sw1
      have sr1 := s1.2.1
      unfold XSr at sr1
      have I1 : ∀ x, x < 300 → x ≠ 216 → x ≠ 217 → hia h1 x = hia h x := fun x hx y1 y2 => (xa.2.1 x (by omega)).2.2 y1 y2
      have F1 : ∀ x, x < 300 → x ≠ 213 → x ≠ 214 → hfi h1 x = hfi h x := fun x hx y1 y2 => (xa.2.1 x (by omega)).2.1 y1 y2
      have ka : hkd h1 (hsz h) = 3 := by
        obtain ⟨N, ⟨⟨z, -⟩, -⟩, -⟩ := px
        exact z
      obtain ⟨-, a2, a3, a4, a5⟩ := fi_g h1 214 (up1 (hfi h1 214) 1 (nI 0))
      have as := she_fi h1 214 (up1 (hfi h1 214) 1 (nI 0))
      generalize ha : sFI h1 214 (up1 (hfi h1 214) 1 (nI 0)) = h2 at *
      have s2 := XS_e as.1.2.2.2 s1
      have so2 := s2.1
      unfold XSo at so2
      have sw2 := WoS_25 s2
      unfold WoS at sw2
      simp only [Nat.reduceAdd] at sw2
      have w42 : hfi h2 25 4 = nI f := by rw [a5 25 (by omega), F1 25 (by omega) (by omega) (by omega)]; exact w4'
      have ka2 : hkd h2 (hsz h) = 3 := by rw [as.1.2.2.2.1]; exact ka
      obtain ⟨b1, b2, b3, b4, b5⟩ := ra_g h2 36 (up1 (hra h2 36) f (some (hsz h)))
      generalize hb : sRA h2 36 (up1 (hra h2 36) f (some (hsz h))) = h3 at *
      have s3 : XS h3 := XS_w b1.2.2.2.1 b1.2.2.2.2.1 b1.2.2.2.2.2.1 (b5 41 (by omega)) (b5 39 (by omega)) s2
      have so3 := s3.1
      unfold XSo at so3
      have sw3 := WoS_25 s3
      unfold WoS at sw3
      simp only [Nat.reduceAdd] at sw3
      have w43 : hfi h3 25 4 = nI f := by rw [b2]; exact w42
      obtain ⟨-, c2, c3, c4, c5⟩ := fi_g h3 25 (up1 (hfi h3 25) 4 (nI (f + 1)))
      have cs' := she_fi h3 25 (up1 (hfi h3 25) 4 (nI (f + 1)))
      generalize hc : sFI h3 25 (up1 (hfi h3 25) 4 (nI (f + 1))) = h4 at *
      have s4 := XS_e cs'.1.2.2.2 s3
      have so4 := s4.1
      unfold XSo at so4
      have k254 := (WoS_25 s4).1
      have w44 : hfi h4 25 4 = nI (f + 1) := by rw [c4, up1_s]
      have W := fun Q => x_went (d + 166) (nI f) s4 Q
      have xw := X2_w h4
      have xwi := (xw_g h4).1
      generalize xwH h4 = h5 at *
      have q2 : rkd 24 = 3 := rfl
      simp (disch := omega) only [U_Di_law (cm _), SA, SB, SC1, SC2, SG, SK, SV, so1, sr1, ha, so2, sw2, w42, ka2, q2, hb, so3, sw3, w43, hc, so4, k254, w44, W, pk_sub, nI_add, Nat.add_sub_cancel, nI_clamp, in_eq, Nat.reduceLeDiff, Nat.le_refl, true_or, or_true, true_implies, not_true_eq_false, not_false_eq_true, false_implies, true_and, and_true]
      refine ⟨_, rfl, ?_⟩
      have F5 : ∀ x, x < 300 → x ≠ 24 → x ≠ 25 → x ≠ 213 → x ≠ 214 → hfi h5 x = hfi h x := fun x hx y1 y2 y3 y4 => by rw [xw.2.1 x y1, c5 x y2, b2, a5 x y4, F1 x hx y3 y4]
      have I5 : hia h5 = hia h1 := by rw [xwi, c2, b3, a2]
      have L5 : LF h h5 := by
        refine ⟨by rw [xw.1.1, cs'.1.1, b1.1, as.1.1]; exact L1.1, fun y hy => ?_, fun y hy z1 z2 z3 z4 z5 => ?_, fun k hk => ?_, fun k hk => ?_, fun y hy z1 z2 z3 z4 z5 z6 z7 => ?_, fun a ha => ?_⟩
        · obtain ⟨u1, u2, u3, u4⟩ := L1.2.1 y hy
          exact ⟨by rw [xw.1.2.2.2.1, cs'.1.2.2.2.1, b1.2.2.2.1, as.1.2.2.2.1]; exact u1, by rw [xw.1.2.2.2.2.1, cs'.1.2.2.2.2.1, b1.2.2.2.2.1, as.1.2.2.2.2.1]; exact u2, by rw [xw.1.2.2.2.2.2.1, cs'.1.2.2.2.2.2.1, b1.2.2.2.2.2.1, as.1.2.2.2.2.2.1]; exact u3, fun z => by rw [xw.1.2.2.2.2.2.2, cs'.1.2.2.2.2.2.2, b5 y z, as.1.2.2.2.2.2.2]; exact u4 z⟩
        · rw [xw.2.1 y z1, c5 y z2, b2, a5 y z4]; exact L1.2.2.1 y hy z1 z2 z3 z4 z5
        · rw [xw.2.2.1, up1_n _ _ hk, c5 24 (by omega), b2, a5 24 (by omega)]; exact L1.2.2.2.1 k hk
        · rw [F5 273 (by omega) (by omega) (by omega) (by omega) (by omega)]
        · rw [I5]; exact L1.2.2.2.2.2.1 y hy z1 z2 z3 z4 z5 z6 z7
        · rw [xw.2.2.2.2, cs'.2, b1.2.2.2.2.2.2, as.2]; exact L1.2.2.2.2.2.2 a ha
      have sc := sc_g h5 (hcc h + 3) (hcu h + 899)
      generalize sCC h5 (hcc h + 3) (hcu h + 899) = h5c at *
      refine ML h5c _ (L5.trans sc.L) (by rw [sc.1.2.2.2.1, I5, I1 275 (by omega) (by omega) (by omega)]) (by rw [sc.1.2.2.2.1, I5, I1 282 (by omega) (by omega) (by omega)]) (by rw [sc.1.2.2.1]; exact F5 273 (by omega) (by omega) (by omega) (by omega) (by omega)) (fun z => absurd z c6) (fun _ e' he => by rw [hpt] at he; cases he) (fun _ cs2 hcs F P m m0 m1 m13 m20 m18 m275 mtx mp1 mpx m274 => ⟨rfl, ?_⟩)
      have ee : cs2 = cs := by rw [hpt] at hcs; injection hcs with hcs; exact hcs.symm
      subst ee
      have L : LF h F := (L5.trans sc.L).trans m.L
      obtain ⟨⟨y1, y2, y3, y4, y5⟩, y6, y7, y8, y9⟩ := m
      obtain ⟨⟨sc1, sc2, sc3, sc4, sc5⟩, sc6, sc7⟩ := sc
      rw [sc1] at y1
      rw [sc6] at y2
      rw [sc7] at y3
      have y4 := sc2.trans y4
      simp only [sc3] at y6
      simp only [sc4] at y7 mpx
      rw [sc4] at m274
      have FI : ∀ a, a ≠ 273 → hfi F a = hfi h5 a := fun a z => (y6 a z).1
      have g24 : hfi F 24 = up1 (hfi h 24) 13 (nI 0) := by rw [FI 24 (by omega), xw.2.2.1, c5 24 (by omega), b2, a5 24 (by omega), F1 24 (by omega) (by omega) (by omega)]
      have g25 : hfi F 25 = up1 (hfi h 25) 4 (nI (f + 1)) := by rw [FI 25 (by omega), xw.2.1 25 (by omega), c4, b2, a5 25 (by omega), F1 25 (by omega) (by omega) (by omega)]
      have zF : hsz F = hsz h + 3 := by rw [y1, xw.1.1, cs'.1.1, b1.1, as.1.1, xa.1.1]
      have kdF : hkd F = hkd h1 := by rw [y4.1, xw.1.2.2.2.1, cs'.1.2.2.2.1, b1.2.2.2.1, as.1.2.2.2.1]
      have lnF : hln F = hln h1 := by rw [y4.2.1, xw.1.2.2.2.2.1, cs'.1.2.2.2.2.1, b1.2.2.2.2.1, as.1.2.2.2.2.1]
      have frF : hfr F = hfr h1 := by rw [y4.2.2.1, xw.1.2.2.2.2.2.1, cs'.1.2.2.2.2.2.1, b1.2.2.2.2.2.1, as.1.2.2.2.2.2.1]
      have raF : hra F 36 = up1 (hra h 36) f (some (hsz h)) := by rw [y4.2.2.2, xw.1.2.2.2.2.2.2, cs'.1.2.2.2.2.2.2, b4, as.1.2.2.2.2.2.2, (xa.2.1 36 (by omega)).1.2.2.2.1]
      have px' : PXh F (hsz h) (LWof cs2) := PXh_a (fun x h1' _ => ⟨by rw [kdF], by rw [lnF], by rw [frF], by rw [FI x (by omega), xw.2.1 x (by omega), c5 x (by omega), b2, a5 x (by omega)], by rw [y7 x (by omega) (by omega) (by omega), I5]⟩) (PXh_of px)
      have mpx' : ∀ x, x ≠ 1 → (x < 2022 + 900 * f ∨ 2022 + 900 * (f + 1) ≤ x) → P x = hia h 275 x := fun x z1 z2 => by rw [mpx x z1 z2, I5, I1 275 (by omega) (by omega) (by omega)]
      have hr : ∀ j, 5 ≤ j → j < 1754 → P j = hia h 275 j := fun j z1 z2 => mpx' j (by omega) (by omega)
      obtain ⟨x1, x2, x3, x4, x5, x6, x7⟩ := id L
      have W : WV F 25 (hia F 275) := by
        rw [m275]
        refine ⟨NeV_c hr iv.q (NeV_a (x3 26 (by omega) (by omega) (by omega) (by omega) (by omega) (by omega)) (fun a h1 h2 => x6 a (by omega) (by omega) (by omega) (by omega) (by omega) (by omega) (by omega) (by omega)) V), IV_c hr iv, ?_, ⟨f + 1, by omega, mp1, ?_, fun i hi => ?_⟩, ?_, ?_, ?_⟩
        · rw [g25, up1_s, up1_n _ _ (by omega), up1_n _ _ (by omega), up1_n _ _ (by omega), up1_n _ _ (by omega), mp1, mpx' 2 (by omega) (by omega), mpx' 0 (by omega) (by omega), mpx' 3 (by omega) (by omega), mpx' 4 (by omega) (by omega)]
          exact ⟨rfl, w5, w6, w7, w8⟩
        · rw [mpx' 2 (by omega) (by omega)]
          rcases l3 with z | ⟨f', z1, z2⟩
          · exact Or.inl z
          · exact Or.inr ⟨f', by omega, z2⟩
        · by_cases e : i = f
          · subst e
            exact ⟨hsz h, LWof cs2, by show hra F 36 i = _; rw [raF, up1_s], hz, by omega, px', mtx⟩
          · obtain ⟨a, L', z1, z2, z3, z4, z5⟩ := l4 i (by omega)
            exact ⟨a, L', by show hra F 36 i = _; rw [raF, up1_n _ _ e]; exact z1, z2, by omega, PXh_a (fun x h1 h2 => ⟨(x2 x (by omega)).1, (x2 x (by omega)).2.1, (x2 x (by omega)).2.2.1, x3 x (by omega) (by omega) (by omega) (by omega) (by omega) (by omega), x6 x (by omega) (by omega) (by omega) (by omega) (by omega) (by omega) (by omega) (by omega)⟩) z4, TX_r (fun x h1 h2 => mpx' x (by omega) (by omega)) z5⟩
        · obtain ⟨ns, n1, n2, n3⟩ := sn
          refine ⟨ns, n1, (mpx' 0 (by omega) (by omega)).trans n2, fun i hi => ?_⟩
          rw [x6 (25 + 12) (by omega) (by omega) (by omega) (by omega) (by omega) (by omega) (by omega) (by omega), x6 (25 + 13) (by omega) (by omega) (by omega) (by omega) (by omega) (by omega) (by omega) (by omega), mpx' _ (by omega) (by omega), mpx' _ (by omega) (by omega)]
          exact n3 i hi
        · obtain ⟨md, z1, z2⟩ := rn
          exact ⟨md, z1, (mpx' 4 (by omega) (by omega)).trans z2⟩
        · obtain ⟨v, z1, z2⟩ := sl
          exact ⟨v, z1, (mpx' 3 (by omega) (by omega)).trans z2⟩
      obtain ⟨q1, q6, q7, q8, q9, q10⟩ := ct
      refine ⟨GI_lf L g W ⟨?_, by rw [g24, up1_s, m1], by rw [g24, up1_n _ _ (by omega), x5 11 (by omega)]; exact q7, by rw [g24, up1_n _ _ (by omega), x5 48 (by omega)]; exact q8, ?_, m20⟩ ⟨(T.1, 0), TpV_0 ?_ m13⟩, ⟨by rw [y2]; exact Nat.le_refl _, by rw [y3]; exact Nat.le_refl _⟩, (x2 0 (by omega)).1, (x2 0 (by omega)).2.1, x6 0 (by omega) (by omega) (by omega) (by omega) (by omega) (by omega) (by omega) (by omega), fun la => LA_lf L hz (fun i _ => ?_) la⟩
      · rw [y7 244 (by omega) (by omega) (by omega), m274, I5, I1 244 (by omega) (by omega) (by omega), I1 274 (by omega) (by omega) (by omega)]; exact q1
      · rw [m18, FI 213 (by omega), xw.2.1 213 (by omega), c5 213 (by omega), b2, a5 213 (by omega), fa]
      · rw [FI 214 (by omega), xw.2.1 214 (by omega), c5 214 (by omega), b2, a4, up1_s]
      · by_cases e : i = f
        · subst e
          exact Or.inr ⟨hsz h, by rw [raF, up1_s], hz, by omega, by rw [kdF]; exact ka⟩
        · exact Or.inl (by rw [raF, up1_n _ _ e])
