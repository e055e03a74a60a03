/-! ===== orders: the pair ===== -/
theorem MOE.W {H F : MH} (m : MOE H F) {p : RW} (w : WV H 25 p) : WV F 25 p := WV_a (by rw [m.1.1]; exact Nat.le_refl _) ⟨m.2.1 25 (by omega), m.2.1 26 (by omega)⟩ (fun a _ h2 => m.X.2 a (by omega)) (by rw [m.1.2.2.2.2.2.2]) (fun x h1 _ => ⟨by rw [m.1.2.2.2.1], by rw [m.1.2.2.2.2.1], by rw [m.1.2.2.2.2.2.1], m.2.1 x (by omega), m.X.2 x (by omega)⟩) w
def Rgf (h H : MH) : Prop := (∀ a, 40 ≤ a → a ≤ 212 → hfi H a = hfi h a) ∧ ∀ a, 42 ≤ a → a ≤ 212 → hia H a = hia h a
theorem Rgf.trans {a b c : MH} (x : Rgf a b) (y : Rgf b c) : Rgf a c := ⟨fun p q r => (y.1 p q r).trans (x.1 p q r), fun p q r => (y.2 p q r).trans (x.2 p q r)⟩
theorem Rgf.X {h H : MH} (x : Rgf h H) {nx : Nat} {g : RGy} (r : RgX h nx g) : RgX H nx g := RgX_t (N := 26) (Or.inl rfl) (x.1 40 (by omega) (by omega)) (fun i hi => x.1 _ (by omega) (by omega)) (fun a h1 h2 => x.2 a h1 h2) r
theorem MOE.R {H F : MH} (m : MOE H F) : Rgf H F := ⟨fun a _ h2 => m.2.1 a (by omega), fun a _ h2 => m.X.2 a (by omega)⟩
theorem XOf.r {h H : MH} (x : XOf h H) (hz : 300 ≤ hsz h) : hfi H 273 = hfi h 273 ∧ hfi H 25 = hfi h 25 ∧ ∀ a, 274 ≤ a → a < 300 → hia H a = hia h a := ⟨x.2.2.1 273 (by omega) (by omega) (by omega) (by omega) (by omega), x.2.2.1 25 (by omega) (by omega) (by omega) (by omega) (by omega), fun a h1 h2 => x.2.2.2.2.1 a (by omega) (by omega) (by omega) (by omega) (by omega) (by omega) (by omega) (by omega) (by omega) (by omega)⟩
theorem m_ordX (d : Nat) {h hx : MH} {T : TP} {Lo : Option LWS} {g0 : RGy} (g : GI h) (tp : TpV h T) (x : XOf h hx) (fo : FO (hia h 275) Lo) (rm : RgM h g0) (Q : RT)
    (KE : ∀ e, pTx T 1 12 0 0 = .error e → ∀ F, MOE hx F → hfi F 273 1 = -6 → hfi F 273 13 = nI 0 → hfi F 273 20 = nI 0 → hfi F 273 18 = nI e → hfi F 273 48 = -1 → hia F 275 = hia h 275 → hia F 274 = up1 (hia h 274) 6 (hia h 274 6 + nI 1) → RgM F g0 → Q (some (.int (-6))) F)
    (KF : ∀ cs, pTx T 1 12 0 0 = .ok cs → ∀ k, oR Lo cs cs.length 0 (hia h 275, 0, -1, g0) = .error k → ∀ F, MOE hx F → hfi F 273 1 = -3 → hfi F 273 13 = nI 0 → hfi F 273 20 = nI 0 → hfi F 273 18 = -1 → hfi F 273 48 = nI k → (∀ j, 5 ≤ j → j < 1754 → hia F 275 j = hia h 275 j) → LO (hia h 275) (hia F 275) → hia F 274 = up1 (hia h 274) 3 (hia h 274 3 + nI 1) → RgM F g0 → Q (some (.int (-3))) F)
    (KS : ∀ cs, pTx T 1 12 0 0 = .ok cs → ∀ s', oR Lo cs cs.length 0 (hia h 275, 0, -1, g0) = .ok s' → ∀ F, MOE hx F → hfi F 273 1 = nI 0 → hfi F 273 13 = nI 0 → hfi F 273 20 = nI 0 → hfi F 273 18 = -1 → hfi F 273 48 = -1 → hia F 275 = s'.1 → OI (hia h 275) 240 s' → hia F 274 = hia h 274 → RgM F s'.2.2.2 → Q (some (.int (nI s'.2.1))) F) : callD (d + 12) 240 [.ref 273] hx Q := by
  have hz := g.2.2.1
  obtain ⟨-, iv, -, -, -, rn, -⟩ := g.2.2.2.1
  obtain ⟨t1, t2, t3, t4⟩ := tp
  obtain ⟨r1, r2, r3⟩ := x.r hz
  refine m_orders d (Lo := Lo) (g0 := g0) (x.MS hz g.2.1.1) (WDM_a x.2.2.2.2.2 g.2.1.2.1) (HDM_a x.2.2.2.2.2 g.2.1.2.2) (by rw [r3 282 (by omega) (by omega)]; exact t2) (by rw [r1]; exact t4) (r3 275 (by omega) (by omega)) iv fo rn (RgM_k (by rw [r1]) (fun y _ => by rw [r3 278 (by omega) (by omega)]) (fun y _ => by rw [r3 279 (by omega) (by omega)]) rm) Q ?_ ?_ ?_
  · rw [r3 274 (by omega) (by omega)]; exact KE
  · rw [r3 274 (by omega) (by omega)]; exact KF
  · rw [r3 274 (by omega) (by omega)]; exact KS
theorem op_orders : PairOp 168 88 240 [] := fun d h g => by
  have w := g.2.2.2.1
  obtain ⟨V, iv, -, -, -, rn, -⟩ := id w
  obtain ⟨T, tp⟩ := g.2.2.2.2.2.2.2.1
  obtain ⟨t1, t2, t3, t4⟩ := id tp
  obtain ⟨nx, n, r⟩ := g.2.2.2.2.1
  obtain ⟨g0, gn, rx, rm⟩ := RgV_g r
  obtain ⟨Lo, lv, l, fo⟩ := WV_law w
  have hz := g.2.2.1
  have s := g.1
  have so := (s).1
  unfold XSo at so
  obtain ⟨q1, q6, q7, q8, q9, q10⟩ := g.2.2.2.2.2.2.1
  obtain ⟨-, a2, -, a4, a5⟩ := fi_g h 24 (up1 (hfi h 24) 15 (-1))
  have as := she_fi h 24 (up1 (hfi h 24) 15 (-1))
  have X0 : XOf h (sFI h 24 (up1 (hfi h 24) 15 (-1))) := XOf_she as.1.1 as.1.2.2.2 (fun a _ => by rw [as.2]) (fun y a _ _ _ => a5 y a) (fun k _ b => by rw [a4, up1_n _ _ b]) (fun y _ _ _ _ _ _ _ _ _ => by rw [a2])
  have R0 : Rgf h (sFI h 24 (up1 (hfi h 24) 15 (-1))) := ⟨fun a b c => a5 a (by omega), fun a _ _ => by rw [a2]⟩
  generalize hh0 : sFI h 24 (up1 (hfi h 24) 15 (-1)) = ha at *
  have s0 := X0.XS hz s
  have so0 := s0.1
  unfold XSo at so0
  have sr0 := s0.2.1
  have sr0' := sr0
  unfold XSr at sr0'
  have k213 := sr0'.1
  have hz0 : 300 ≤ hsz ha := by rw [as.1.1]; exact hz
  rw [E_Di_orders]
  simp (disch := omega) only [U_Di_orders (cm _), SA, SB, SC1, SC2, SG, SK, SV, so, hh0, so0, k213, Nat.le_refl, Nat.reduceLeDiff, true_or, or_true, true_implies, not_true_eq_false, not_false_eq_true, false_implies, true_and, and_true]
  refine ⟨⟨by rw [as.1.2.1]; exact Nat.le_refl _, by rw [as.1.2.2.1]; exact Nat.le_refl _⟩, ?_⟩
  refine x_reads d (om := 1) (by omega) sr0 (by rw [a2]; exact t1) (by rw [a5 214 (by omega)]; exact t3) hz0 _ ?_
  cases hpt : pTx T 1 12 0 0 with
  | error e =>
    intro h1 xa fa
    have X1 := X0.trans (xa.X hz0)
    have R1 := R0.trans (show Rgf ha h1 from ⟨fun a b c => (xa.2.1 a (by omega)).2.1 (by omega) (by omega), fun a b c => (xa.2.1 a (by omega)).2.2 (by omega) (by omega)⟩)
    have s1 := X1.XS hz s
    have so1 := s1.1
    unfold XSo at so1
    have sr1 := s1.2.1
    unfold XSr at sr1
    obtain ⟨-, b2, -, b4, b5⟩ := fi_g h1 214 (up1 (hfi h1 214) 1 (nI 0))
    have bs := she_fi h1 214 (up1 (hfi h1 214) 1 (nI 0))
    have X2 := X1.trans (XOf_she bs.1.1 bs.1.2.2.2 (fun a _ => by rw [bs.2]) (fun y _ _ c _ => b5 y (by omega)) (fun k _ _ => by rw [b5 24 (by omega)]) (fun y _ _ _ _ _ _ _ _ _ => by rw [b2]))
    have R2 := R1.trans (show Rgf h1 (sFI h1 214 (up1 (hfi h1 214) 1 (nI 0))) from ⟨fun a b c => b5 a (by omega), fun a _ _ => by rw [b2]⟩)
    generalize hh2 : sFI h1 214 (up1 (hfi h1 214) 1 (nI 0)) = h2 at *
    have s2 := X2.XS hz s
    have k72 := s2.1.1
    have R := fun Q => x_refused (d + 166) 6 (by omega) s2 Q
    have e5 : rfV 6 = -6 := by decide
    have KX := KQ_xr h2 (rfV 6) (rfX 6)
    obtain ⟨x1, x2, x3, x4, x5⟩ := xr_g h2 (rfV 6) (rfX 6)
    have X3 := X2.trans (XOf_she KX.1.1 KX.1.2.2.2 (fun a ha => KX.2.2.2.2.2.1 a ha) (fun y a _ _ _ => x4 y a) (fun k a _ => by rw [x3, up1_n _ _ a]) (fun y _ _ _ _ _ _ _ _ a => x5 y a))
    have R3 := R2.trans (show Rgf h2 (xrH h2 (rfV 6) (rfX 6)) from ⟨fun a b c => x4 a (by omega), fun a b c => x5 a (by omega)⟩)
    rw [e5] at R
    generalize h3e : xrH h2 (rfV 6) (rfX 6) = h3 at *
    rw [e5] at h3e
    rw [h3e] at R
    rw [e5] at x3
    simp (disch := omega) only [U_Di_orders (cm _), SA, SB, SC1, SC2, SG, SK, SV, so1, sr1, hh2, k72, R, Nat.reduceLeDiff, true_or, or_true, true_implies, not_true_eq_false, not_false_eq_true, false_implies, true_and, and_true]
    refine ⟨_, rfl, ?_⟩
    have sc := sc_g h3 (hcc h + 3) (hcu h + 899)
    generalize sCC h3 (hcc h + 3) (hcu h + 899) = hx at *
    have X4 := X3.trans sc.X
    have R4 := R3.trans (show Rgf h3 hx from ⟨fun a _ _ => by rw [sc.1.2.2.1], fun a _ _ => by rw [sc.1.2.2.2.1]⟩)
    refine m_ordX (d + 156) (Lo := Lo) (g0 := g0) g tp X4 fo rm _ (fun e' he F m m1 m13 m20 m18 m48 m275 m274 mr => ⟨rfl, ?_⟩) (fun cs hcs => by rw [hpt] at hcs; cases hcs) (fun cs hcs => by rw [hpt] at hcs; cases hcs)
    have ee : e' = e := by rw [hpt] at he; injection he with he; exact he.symm
    subst ee
    have FI : ∀ a, a ≠ 273 → a ≠ 24 → hfi F a = hfi h2 a := fun a z1 z2 => by rw [m.2.1 a z1, sc.1.2.2.1, x4 a z2]
    have g24 : hfi F 24 = up1 (up1 (hfi h 24) 15 (-1)) 13 (-6) := by rw [m.2.1 24 (by omega), sc.1.2.2.1, x3, b5 24 (by omega), (xa.2.1 24 (by omega)).2.1 (by omega) (by omega), a4]
    have g244 : hia F 244 = up1 (hia h 244) (rfX 6) (hia h 244 (rfX 6) + nI 1) := by rw [m.X.2 244 (by omega), sc.1.2.2.2.1, x1, b2, (xa.2.1 244 (by omega)).2.2 (by omega) (by omega), a2]
    have W : WV F 25 (hia F 275) := by
      rw [m275]
      exact m.W (X4.W hz w (fun _ _ => rfl) (NeV_a (by rw [sc.1.2.2.1, x4 26 (by omega), b5 26 (by omega), (xa.2.1 26 (by omega)).2.1 (by omega) (by omega), a5 26 (by omega)]) (fun a y1 y2 => by rw [sc.1.2.2.2.1, x5 a (by omega), b2, (xa.2.1 a (by omega)).2.2 (by omega) (by omega), a2]) V) iv)
    exact Pst_ord g X4 ⟨sc.2.1, sc.2.2⟩ m W ⟨nx, _, RgV_of (m.R.X (R4.X rx)) mr⟩ ⟨cc_ref (by omega) g244 m274 q1, by rw [g24, up1_s, m1], by rw [g24, up1_n _ _ (by omega), up1_n _ _ (by omega), m.2.2.1 11 (by omega) (by omega), (X4.r hz).1]; exact q7, by rw [g24, up1_n _ _ (by omega), up1_s, m48], by rw [FI 213 (by omega) (by omega), b5 213 (by omega), fa, m18], m20⟩ ⟨(T.1, 0), TpV_0 (by rw [FI 214 (by omega) (by omega), b4, up1_s]) m13⟩
  | ok cs =>
    intro h1 xa fa px
    have X1 := X0.trans (xa.X hz0)
    have R1 := R0.trans (show Rgf ha h1 from ⟨fun a b c => (xa.2.1 a (by omega)).2.1 (by omega) (by omega), fun a b c => (xa.2.1 a (by omega)).2.2 (by omega) (by omega)⟩)
    have s1 := X1.XS hz s
    have so1 := s1.1
    unfold XSo at so1
    have sr1 := s1.2.1
    unfold XSr at sr1
    have z1 : hsz ha + 2 < hsz h1 := by rw [xa.1.1]; omega
    obtain ⟨-, b2, -, b4, b5⟩ := fi_g h1 214 (up1 (hfi h1 214) 1 (nI 0))
    have bs := she_fi h1 214 (up1 (hfi h1 214) 1 (nI 0))
    have X12 : XOf h1 (sFI h1 214 (up1 (hfi h1 214) 1 (nI 0))) := XOf_she bs.1.1 bs.1.2.2.2 (fun a _ => by rw [bs.2]) (fun y _ _ c _ => b5 y (by omega)) (fun k _ _ => by rw [b5 24 (by omega)]) (fun y _ _ _ _ _ _ _ _ _ => by rw [b2])
    have R2 := R1.trans (show Rgf h1 (sFI h1 214 (up1 (hfi h1 214) 1 (nI 0))) from ⟨fun a b c => b5 a (by omega), fun a _ _ => by rw [b2]⟩)
    generalize hh2 : sFI h1 214 (up1 (hfi h1 214) 1 (nI 0)) = h2 at *
    have X2 := X1.trans X12
    have s2 := X2.XS hz s
    have so2 := s2.1
    unfold XSo at so2
    have sw2 := WoS_25 s2
    unfold WoS at sw2
    simp only [Nat.reduceAdd] at sw2
    have hS2 := s2.2.2.2.2.2.1
    have k221 := hS2.2.1.1
    have V2 : NeV h2 26 (hia h 275) := NeV_a (by rw [b5 26 (by omega), (xa.2.1 26 (by omega)).2.1 (by omega) (by omega), a5 26 (by omega)]) (fun a y1 y2 => by rw [b2, (xa.2.1 a (by omega)).2.2 (by omega) (by omega), a2]) V
    simp (disch := omega) only [U_Di_orders (cm _), SA, SB, SC1, SC2, SG, SK, SV, so1, sr1, hh2, so2, sw2, k221, Nat.reduceLeDiff, true_or, or_true, true_implies, not_true_eq_false, not_false_eq_true, false_implies, true_and, and_true]
    refine y_copies (d + 166) 26 221 (by omega) hS2.1 V2 hS2.2.1 (QL_mono iv.q (by omega)) _ (fun h3 Xn => ?_)
    obtain ⟨xf, xs, xv⟩ := Xn
    have X23 : XOf h2 h3 := XOf_she xf.1.1 xf.e (fun a _ => by rw [xf.1.2.2.2.2.2.2.2.1]) (fun a _ _ _ z => xf.2.1 a z) (fun k _ _ => by rw [xf.2.1 24 (by omega)]) (fun a _ _ _ _ _ _ z _ _ => xf.2.2 a z)
    have X3 := X2.trans X23
    have R3 := R2.trans (show Rgf h2 h3 from ⟨fun a b c => xf.2.1 a (by omega), fun a b c => xf.2.2 a (by omega)⟩)
    have s3 := X3.XS hz s
    have so3 := s3.1
    unfold XSo at so3
    have V3 : NeV h3 26 (hia h 275) := NeV_a (xf.2.1 26 (by omega)) (fun a y1 y2 => xf.2.2 a (by omega)) V2
    have W3 := X3.W hz w (fun _ _ => rfl) V3 iv
    have px3 : PXg h3 (hsz ha) 1 cs := (X12.trans X23).P hz0 z1 px
    obtain ⟨Lo, lv, l3, fo⟩ := WV_law W3
    have rx3 := R3.X rx
    have f24_3 : hfi h3 24 = up1 (hfi h 24) 15 (-1) := by rw [xf.2.1 24 (by omega), b5 24 (by omega), (xa.2.1 24 (by omega)).2.1 (by omega) (by omega), a4]
    have f213_3 : hfi h3 213 6 = -1 := by rw [xf.2.1 213 (by omega), b5 213 (by omega), fa]
    have f214_3 : hfi h3 214 1 = nI 0 := by rw [xf.2.1 214 (by omega), b4, up1_s]
    have i244_3 : hia h3 244 = hia h 244 := by rw [xf.2.2 244 (by omega), b2, (xa.2.1 244 (by omega)).2.2 (by omega) (by omega), a2]
    simp (disch := omega) only [U_Di_orders (cm _), SA, SB, SC1, SC2, SG, SK, SV, so3, Nat.reduceLeDiff, true_or, or_true, true_implies, not_true_eq_false, not_false_eq_true, false_implies, true_and, and_true]
    refine x_runO (d + 159) 221 0 (hsz ha) (Or.inr rfl) (by omega) s3 l3 px3 xv iv rx3 rx3.2.1 _ (fun k hk H4 aq nxr f15 => ?_) (fun s' hs H4 RI => ?_)
    · obtain ⟨nx', rx4⟩ := nxr
      have rx4 := rx4 rfl
      have X4 := X3.trans (aq.X (Or.inr rfl))
      have s4 := X4.XS hz s
      have k74 := s4.1.1
      have R := fun Q => x_refused (d + 166) 3 (by omega) s4 Q
      have e5 : rfV 3 = -3 := by decide
      have KX := KQ_xr H4 (rfV 3) (rfX 3)
      obtain ⟨x1, x2, x3, x4, x5⟩ := xr_g H4 (rfV 3) (rfX 3)
      have X5 := X4.trans (XOf_she KX.1.1 KX.1.2.2.2 (fun a ha => KX.2.2.2.2.2.1 a ha) (fun y a _ _ _ => x4 y a) (fun k a _ => by rw [x3, up1_n _ _ a]) (fun y _ _ _ _ _ _ _ _ a => x5 y a))
      have R5 : Rgf H4 (xrH H4 (rfV 3) (rfX 3)) := ⟨fun a b c => x4 a (by omega), fun a b c => x5 a (by omega)⟩
      rw [e5] at R
      generalize h3e : xrH H4 (rfV 3) (rfX 3) = h5 at *
      rw [e5] at h3e
      rw [h3e] at R
      rw [e5] at x3
      have zz : ¬ nI 0 ≤ (-1 : Int32) := by decide
      simp (disch := omega) only [U_Di_orders (cm _), SA, SB, SC1, SC2, SG, SK, SV, zz, k74, R, Nat.reduceLeDiff, true_or, or_true, true_implies, not_true_eq_false, not_false_eq_true, false_implies, true_and, and_true]
      refine ⟨_, rfl, ?_⟩
      have sc := sc_g h5 (hcc h + 3) (hcu h + 899)
      generalize sCC h5 (hcc h + 3) (hcu h + 899) = hx at *
      have X6 := X5.trans sc.X
      have R6 := R5.trans (show Rgf h5 hx from ⟨fun a _ _ => by rw [sc.1.2.2.1], fun a _ _ => by rw [sc.1.2.2.2.1]⟩)
      refine m_ordX (d + 156) (Lo := Lo) (g0 := g0) g tp X6 fo rm _ (fun e' he => by rw [hpt] at he; cases he) (fun cs2 hcs k2 hk2 F m m1 m13 m20 m18 m48 mrow mlo m274 mr => ⟨rfl, ?_⟩) (fun cs2 hcs s2 hs2 => by
        rw [hpt] at hcs
        injection hcs with hcs
        subst hcs
        rw [hk] at hs2
        cases hs2)
      rw [hpt] at hcs
      injection hcs with hcs
      subst hcs
      have kk : k2 = k := by rw [hk] at hk2; injection hk2 with z; exact z.symm
      subst kk
      have FI : ∀ a, a ≠ 273 → a ≠ 24 → hfi F a = hfi H4 a := fun a z1 z2 => by rw [m.2.1 a z1, sc.1.2.2.1, x4 a z2]
      have F24 : hfi F 24 = up1 (hfi H4 24) 13 (-3) := by rw [m.2.1 24 (by omega), sc.1.2.2.1, x3]
      have g244 : hia F 244 = up1 (hia h 244) (rfX 3) (hia h 244 (rfX 3) + nI 1) := by rw [m.X.2 244 (by omega), sc.1.2.2.2.1, x1, aq.2.2.2 244 (by omega) (by omega) (by omega) (by omega) (by omega), i244_3]
      have V4 : NeV H4 26 (hia h 275) := NeV_a (aq.2.1 26 (by omega) (by omega) (by omega)) (fun a y1 y2 => aq.2.2.2 a (by omega) (by omega) (by omega) (by omega) (by omega)) V3
      have V6 : NeV hx 26 (hia h 275) := NeV_a (by rw [sc.1.2.2.1, x4 26 (by omega)]) (fun a y1 y2 => by rw [sc.1.2.2.2.1, x5 a (by omega)]) V4
      have W : WV F 25 (hia F 275) := m.W (X6.W hz w mlo (NeV_c mrow iv.q V6) (IV_c mrow iv))
      exact Pst_ord g X6 ⟨sc.2.1, sc.2.2⟩ m W ⟨nx', _, RgV_of (m.R.X (R6.X rx4)) mr⟩ ⟨cc_ref (by omega) g244 m274 q1, by rw [F24, up1_s, m1], by rw [F24, up1_n _ _ (by omega), aq.2.2.1 14 (by omega), f24_3, up1_n _ _ (by omega), m.2.2.1 11 (by omega) (by omega), (X6.r hz).1]; exact q7, by rw [F24, up1_n _ _ (by omega), f15, m48], by rw [FI 213 (by omega) (by omega), aq.2.1 213 (by omega) (by omega) (by omega), f213_3, m18], m20⟩ ⟨(T.1, 0), TpV_0 (by rw [FI 214 (by omega) (by omega), aq.2.1 214 (by omega) (by omega) (by omega)]; exact f214_3) m13⟩
    · obtain ⟨aq, V4', oi, w15, nx', rx4⟩ := RI
      have rx4 : RgX H4 nx' g0 := rx4
      have n240 := oi.2.2.1
      have X4 := X3.trans (aq.X (Or.inr rfl))
      have s4 := X4.XS hz s
      have so4 := s4.1
      unfold XSo at so4
      have sw4 := WoS_25 s4
      unfold WoS at sw4
      simp only [Nat.reduceAdd] at sw4
      have V4 : NeV H4 26 (hia h 275) := NeV_a (aq.2.1 26 (by omega) (by omega) (by omega)) (fun a y1 y2 => aq.2.2.2 a (by omega) (by omega) (by omega) (by omega) (by omega)) V3
      have l4 : LV H4 (hia h 275) Lo lv := aq.L (Or.inr (Or.inl rfl)) (fun _ _ => rfl) l3
      have px4 : PXg H4 (hsz ha) 1 cs := PXg_q (Or.inr (Or.inl rfl)) aq px3
      have z0 : nI 0 ≤ nI s'.2.1 := by rw [leI (by omega) (by omega)]; omega
      simp (disch := omega) only [U_Di_orders (cm _), SA, SB, SC1, SC2, SG, SK, SV, z0, so4, sw4, Nat.reduceLeDiff, true_or, or_true, true_implies, not_true_eq_false, not_false_eq_true, false_implies, true_and, and_true]
      refine x_runO (d + 159) 26 1 (hsz ha) (Or.inl rfl) (by omega) s4 l4 px4 V4 iv rx4 rx4.2.1 _ (fun k hk => by rw [hs] at hk; cases hk) (fun s2 hs2 H5 RI2 => ?_)
      have ss : s2 = s' := by rw [hs] at hs2; injection hs2 with z; exact z.symm
      subst ss
      obtain ⟨aq2, V5, oi2, w152, nx5, rx5⟩ := RI2
      have rx5 : RgX H5 nx5 s2.2.2.2 := rx5
      have X5 := X4.trans (aq2.X (Or.inl rfl))
      have s5 := X5.XS hz s
      have k75 := s5.1.1
      have Wn := fun Q => x_went (d + 166) (nI s2.2.1) s5 Q
      have xw := X2_w H5
      have xwi := (xw_g H5).1
      generalize xwH H5 = h6 at *
      simp (disch := omega) only [U_Di_orders (cm _), SA, SB, SC1, SC2, SG, SK, SV, k75, Wn, true_or, or_true, true_implies, not_true_eq_false, not_false_eq_true, false_implies, true_and, and_true]
      refine ⟨_, rfl, ?_⟩
      have X6 := X5.trans (show XOf H5 h6 from XOf_she xw.1.1 xw.1.2.2.2 (fun a _ => by rw [xw.2.2.2.2]) (fun y a _ _ _ => xw.2.1 y a) (fun k a _ => by rw [xw.2.2.1, up1_n _ _ a]) (fun y _ _ _ _ _ _ _ _ a => xw.2.2.2.1 y a))
      have sc := sc_g h6 (hcc h + 3) (hcu h + 899)
      generalize sCC h6 (hcc h + 3) (hcu h + 899) = hx at *
      have X7 := X6.trans sc.X
      have R7 : Rgf H5 hx := ⟨fun a b c => by rw [sc.1.2.2.1, xw.2.1 a (by omega)], fun a _ _ => by rw [sc.1.2.2.2.1, xwi]⟩
      refine m_ordX (d + 156) (Lo := Lo) (g0 := g0) g tp X7 fo rm _ (fun e' he => by rw [hpt] at he; cases he) (fun cs2 hcs k2 hk2 => by
        rw [hpt] at hcs
        injection hcs with hcs
        subst hcs
        rw [hs] at hk2
        cases hk2) (fun cs2 hcs s3' hs3 F m m1 m13 m20 m18 m48 m275 moi m274 mr => ?_)
      rw [hpt] at hcs
      injection hcs with hcs
      subst hcs
      have ss2 : s3' = s2 := by rw [hs] at hs3; injection hs3 with z; exact z.symm
      subst ss2
      refine ⟨rfl, ?_⟩
      have FI : ∀ a, a ≠ 273 → a ≠ 24 → hfi F a = hfi H5 a := fun a z1 z2 => by rw [m.2.1 a z1, sc.1.2.2.1, xw.2.1 a z2]
      have F24 : hfi F 24 = up1 (hfi H5 24) 13 (nI 0) := by rw [m.2.1 24 (by omega), sc.1.2.2.1, xw.2.2.1]
      have g244 : hia F 244 = hia h 244 := by rw [m.X.2 244 (by omega), sc.1.2.2.2.1, xwi, aq2.2.2.2 244 (by omega) (by omega) (by omega) (by omega) (by omega), aq.2.2.2 244 (by omega) (by omega) (by omega) (by omega) (by omega), i244_3]
      have V7 : NeV hx 26 s3'.1 := NeV_a (by rw [sc.1.2.2.1, xw.2.1 26 (by omega)]) (fun a y1 y2 => by rw [sc.1.2.2.2.1, xwi]) V5
      have W : WV F 25 (hia F 275) := by
        rw [m275]
        exact m.W (X7.W hz w oi2.2.1 V7 oi2.1)
      exact Pst_ord g X7 ⟨sc.2.1, sc.2.2⟩ m W ⟨nx5, _, RgV_of (m.R.X (R7.X rx5)) mr⟩ ⟨by rw [g244, m274]; exact q1, by rw [F24, up1_s, m1], by rw [F24, up1_n _ _ (by omega), aq2.2.2.1 14 (by omega), aq.2.2.1 14 (by omega), f24_3, up1_n _ _ (by omega), m.2.2.1 11 (by omega) (by omega), (X7.r hz).1]; exact q7, by rw [F24, up1_n _ _ (by omega), w152, w15, f24_3, up1_s, m48], by rw [FI 213 (by omega) (by omega), aq2.2.1 213 (by omega) (by omega) (by omega), aq.2.1 213 (by omega) (by omega) (by omega), f213_3, m18], m20⟩ ⟨(T.1, 0), TpV_0 (by rw [FI 214 (by omega) (by omega), aq2.2.1 214 (by omega) (by omega) (by omega), aq.2.1 214 (by omega) (by omega) (by omega)]; exact f214_3) m13⟩
