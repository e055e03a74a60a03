/-! ===== row: the pair ===== -/
theorem rwL_n {Lo : Option LWS} {T : TP} : ∀ (m k : Nat) (st : RW × Nat × Nat), IV st.1 → (rwL Lo T m k st).2.1 + (rwL Lo T m k st).2.2 ≤ st.2.1 + st.2.2 + m
  | 0, _, _, _ => Nat.le_refl _
  | m + 1, k, st, v => by
    rw [rwL_s]
    split
    · obtain ⟨a, b, c⟩ := rwS_ok (Lo := Lo) (T := T) (k := k) v
      have := rwL_n (Lo := Lo) (T := T) m (k + 3) _ a
      omega
    · omega
theorem x_r109 (d : Nat) (a b : Int32) {H : MH} (s : XS H) (Q : RT) (lm : Nat × Nat) (w2 w5 w6 : Option Value) (K : ∀ H2, ((hsz H2 = hsz H ∧ hcc H2 = hcc H ∧ hcu H2 = hcu H ∧ SHE H H2) ∧ hja H2 = hja H) → hia H2 = hia H → (∀ x, x ≠ 24 → x ≠ 40 → x ≠ 214 → hfi H2 x = hfi H x) → hfi H2 24 = up1 (up1 (hfi H 24) 14 b) 13 (nI 0) → hfi H2 40 = up1 (hfi H 40) 3 (nI 0) → hfi H2 214 = up1 (hfi H 214) 1 (nI 0) → Q (some (.int a)) H2) : WP cd_Di_row (callD (d + 1)) Q lm 109 [] [some (.ref 24), some (.ref 214), w2, some (.int a), some (.int b), w5, w6] H := by
  have sr := s.2.1
  unfold XSr at sr
  have k7 := s.1.1
  obtain ⟨-, a2, -, a4, a5⟩ := fi_g H 214 (up1 (hfi H 214) 1 (nI 0))
  have as := she_fi H 214 (up1 (hfi H 214) 1 (nI 0))
  generalize ha : sFI H 214 (up1 (hfi H 214) 1 (nI 0)) = H1 at *
  have s1 := XS_e as.1.2.2.2 s
  have k71 := s1.1.1
  obtain ⟨-, b2, -, b4, b5⟩ := fi_g H1 24 (up1 (hfi H1 24) 14 b)
  have bs := she_fi H1 24 (up1 (hfi H1 24) 14 b)
  generalize hb : sFI H1 24 (up1 (hfi H1 24) 14 b) = H2 at *
  have s2 := XS_e bs.1.2.2.2 s1
  have so2 := s2.1
  unfold XSo at so2
  have k40 := s2.2.2.1.1
  have CL := fun Q => x_clears d s2 Q
  obtain ⟨-, c2, -, c4, c5⟩ := fi_g H2 40 (up1 (hfi H2 40) 3 (nI 0))
  have cs := she_fi H2 40 (up1 (hfi H2 40) 3 (nI 0))
  generalize sFI H2 40 (up1 (hfi H2 40) 3 (nI 0)) = H3 at *
  have s3 := XS_e cs.1.2.2.2 s2
  have k73 := s3.1.1
  have W := fun Q => x_went d a s3 Q
  have xw := X2_w H3
  have xwi := (xw_g H3).1
  generalize xwH H3 = H4 at *
  have Y := K H4 (she_t (she_t (she_t as bs) cs) ⟨xw.1, xw.2.2.2.2⟩) (by rw [xwi, c2, b2, a2]) (fun x z1 z2 z3 => by rw [xw.2.1 x z1, c5 x z2, b5 x z1, a5 x z3]) (by rw [xw.2.2.1, c5 24 (by omega), b4, a5 24 (by omega)]) (by rw [xw.2.1 40 (by omega), c4, b5 40 (by omega), a5 40 (by omega)]) (by rw [xw.2.1 214 (by omega), c5 214 (by omega), b5 214 (by omega), a4])
  simp (disch := omega) only [U_Di_row (cm _), SA, SB, SC1, SC2, SG, SK, SV, sr, k7, k71, ha, hb, so2, k40, CL, k73, W, Nat.reduceLeDiff, true_or, or_true, true_implies, not_true_eq_false, not_false_eq_true, false_implies, true_and, and_true]
  exact Y
theorem op_row : PairOp 10 85 158 [] := fun d h g => by
  obtain ⟨Lo, lv, l, fo⟩ := WV_law g.2.2.2.1
  obtain ⟨V, iv, -, -, -, rn, -⟩ := g.2.2.2.1
  obtain ⟨nx, n, r⟩ := g.2.2.2.2.1
  obtain ⟨T, t1, t2, t3, t4⟩ := g.2.2.2.2.2.2.2.1
  have s := g.1
  have so := (s).1
  unfold XSo at so
  have sr := s.2.1
  unfold XSr at sr
  have T4 := t1.1
  rw [E_Di_row]
  by_cases c0 : T.2 = 0
  · rw [c0] at t3 t4
    have R := fun Q => x_refused (d + 8) 6 (by omega) s Q
    have e1 : rfV 6 = -6 := by decide
    obtain ⟨hM1, ei, ef, -, fin⟩ := rfM 6 (by omega) g
    rw [e1] at R hM1 ei ef fin
    generalize xrH h (-6) (rfX 6) = h1 at *
    simp (disch := omega) only [U_Di_row (cm _), SA, SB, SC1, SC2, SG, SK, SV, so, sr, t3, R, eqI, eq_self, true_or, or_true, true_implies, not_true_eq_false, not_false_eq_true, false_implies, true_and, and_true]
    refine ⟨_, rfl, ?_⟩
    have k81 := hM1.1
    have h13 : hfi h1 273 13 = nI 0 := by rw [ef]; exact t4
    have kp := KP_f h1 (up1 (up1 (hfi h1 273) 0 (nI 0)) 13 (nI 0)) (fun k hk => by
      by_cases z : k = 13
      · subst z; rw [up1_s, h13]
      · rw [up1_n _ _ z, up1_n _ _ (by omega)])
    generalize hh : sFI h1 273 (up1 (up1 (hfi h1 273) 0 (nI 0)) 13 (nI 0)) = h2 at *
    have hM2 := kp.1.2.2.2.M hM1
    have k82 := hM2.1
    have T' := fun Q => m_tellR (d + 8) 6 (by omega) hM2 Q
    rw [e1] at T'
    have Y := fin h2 kp
    generalize tnH h2 (-6) 6 = h9 at *
    rw [E_Mo_row]
    simp (disch := omega) only [U_Mo_row (cm _), SA, SB, SC1, SC2, SG, SK, SV, up1_s, up1_n, k81, h13, hh, k82, T', eqI, eq_self, true_or, or_true, true_implies, not_true_eq_false, not_false_eq_true, false_implies, true_and, and_true]
    exact Y
  · simp (disch := omega) only [UC_Di_row_109 (cm _), SA, SB, SC1, SC2, SG, SK, SV, so, sr, t3, eqI, c0, true_or, or_true, true_implies, not_true_eq_false, not_false_eq_true, false_implies, true_and, and_true]
    refine x_l_row (d + 2) nx n r.1 r.2.1 s l r.2.2.1 r.2.2.2.1 t1 _ _ 200 0 h (hia h 275, 0, 0) none ⟨by omega, by omega⟩ (by show 0 + 0 ≤ 0; omega) (AR.refl 26 nx h) rfl V iv (fun _ _ => rfl) (fun H' w5 w6 ar e40 V' => ?_)
    obtain ⟨iv', lo'⟩ := rwL_ok (Lo := Lo) (T := T) 200 0 (hia h 275, 0, 0) iv
    have lo' : LO (hia h 275) (rwL Lo T 200 0 (hia h 275, 0, 0)).1 := lo'
    have cn : (rwL Lo T 200 0 (hia h 275, 0, 0)).2.1 + (rwL Lo T 200 0 (hia h 275, 0, 0)).2.2 ≤ 0 + 0 + 200 := rwL_n 200 0 (hia h 275, 0, 0) iv
    generalize hst : rwL Lo T 200 0 (hia h 275, 0, 0) = st at *
    have s' := XS_e ar.1.2.2.2.1 s
    refine x_r109 (d + 8) (nI st.2.1) (nI st.2.2) s' _ _ _ _ _ (fun h1 S1 i1 F1 F24 F40 F214 => ⟨_, rfl, ?_⟩)
    have M1 := S1.1.2.2.2.M (ar.1.2.2.2.1.M g.2.1.1)
    have k81 := M1.1
    have f273 : hfi h1 273 = hfi h 273 := by rw [F1 273 (by omega) (by omega) (by omega), ar.2.1 273 (by omega) (by have := r.1; omega) (by omega)]
    have h13 : hfi h1 273 13 = nI T.2 := by rw [f273]; exact t4
    obtain ⟨-, a2, -, a4, a5⟩ := fi_g h1 273 (up1 (up1 (up1 (hfi h1 273) 0 (nI 0)) 13 (nI 0)) 11 (nI 0))
    have as := she_fi h1 273 (up1 (up1 (up1 (hfi h1 273) 0 (nI 0)) 13 (nI 0)) 11 (nI 0))
    generalize hh : sFI h1 273 (up1 (up1 (up1 (hfi h1 273) 0 (nI 0)) 13 (nI 0)) 11 (nI 0)) = h2 at *
    have M2 := as.1.2.2.2.M M1
    have IA : ∀ a, (a ≤ 26 ∨ 35 < a) → (a ≤ 43 + 10 * nx ∨ 43 + 10 * nx + 9 < a) → a ≠ 219 → a ≠ 220 → a ≠ 42 → hia h2 a = hia h a := fun a y1 y2 y3 y4 y5 => by rw [a2, i1, ar.2.2 a y1 y2 y3 y4 y5]
    have rl := r.1
    have G2 : ∀ k, k ≠ 0 → k ≠ 13 → k ≠ 11 → hfi h2 273 k = hfi h 273 k := fun k y1 y2 y3 => by rw [a4, up1_n _ _ y3, up1_n _ _ y2, up1_n _ _ y1, f273]
    rw [E_Mo_row]
    simp (disch := omega) only [UC_Mo_row_98 (cm _), SA, SB, SC1, SC2, SG, SK, SV, up1_s, up1_n, k81, h13, hh, eqI, c0, true_or, or_true, true_implies, not_true_eq_false, not_false_eq_true, false_implies, true_and, and_true]
    refine m_l_row (d + 0) (Lo := Lo) (T := T) M2 (by rw [G2 20 (by omega) (by omega) (by omega)]; exact g.2.2.2.2.2.2.1.2.2.2.2.2) (by rw [IA 282 (by omega) (by omega) (by omega) (by omega) (by omega)]; exact t2) _ _ 200 0 h2 (hia h 275, 0, 0) ⟨by omega, by omega⟩ (by show 0 + 0 ≤ 0; omega) (MFy.refl 11 h2) (IA 275 (by omega) (by omega) (by omega) (by omega) (by omega)) ⟨n, r.2.1, by rw [G2 8 (by omega) (by omega) (by omega)]; exact r.2.2.2.2.1⟩ (by rw [a4, up1_s]) iv fo rn (fun h3 w3 mf i275 f11 => ?_)
    rw [hst] at i275 f11 ⊢
    have M3 := mf.1.2.2.2.M M2
    have k83 := M3.1
    obtain ⟨-, b2, -, b4, b5⟩ := fi_g h3 273 (up1 (hfi h3 273) 8 (nI 0))
    have bs := she_fi h3 273 (up1 (hfi h3 273) 8 (nI 0))
    generalize hb : sFI h3 273 (up1 (hfi h3 273) 8 (nI 0)) = h4 at *
    have M4 := bs.1.2.2.2.M M3
    have k84 := M4.1
    have TP := fun Q => m_tellP (d + 8) st.2.1 (by omega) M4 Q
    have m5 := M5_w h4
    have tpi := (tp_g h4).2
    generalize tpH h4 = h5 at *
    simp (disch := omega) only [U_Mo_row (cm _), SA, SB, SC1, SC2, SG, SK, SV, k83, hb, k84, TP, true_or, or_true, true_implies, not_true_eq_false, not_false_eq_true, false_implies, true_and, and_true]
    have JA : ∀ a, a ≠ 291 → a ≠ 293 → hja h5 a = hja h a := fun a y1 y2 => by rw [m5.2.2.2.2, bs.2, mf.2.2.2.2 a y1 y2, as.2, S1.2, ar.1.2.2.2.2.2]
    have SS : SHE h h5 := ((((ar.1.2.2.2.1.trans S1.1.2.2.2).trans as.1.2.2.2).trans mf.1.2.2.2).trans bs.1.2.2.2).trans m5.1.2.2.2
    have Z : hsz h5 = hsz h ∧ hcc h5 = hcc h ∧ hcu h5 = hcu h := ⟨by rw [m5.1.1, bs.1.1, mf.1.1, as.1.1, S1.1.1, ar.1.1], by rw [m5.1.2.1, bs.1.2.1, mf.1.2.1, as.1.2.1, S1.1.2.1, ar.1.2.1], by rw [m5.1.2.2.1, bs.1.2.2.1, mf.1.2.2.1, as.1.2.2.1, S1.1.2.2.1, ar.1.2.2.1]⟩
    have FI : ∀ a, a ≠ 273 → hfi h5 a = hfi h1 a := fun a y => by rw [m5.2.1 a y, b5 a y, mf.2.1 a y, a5 a y]
    have FH : ∀ a, a ≠ 24 → a ≠ 26 → a ≠ 40 → a ≠ 214 → a ≠ 273 → a ≠ 43 + 10 * nx → hfi h5 a = hfi h a := fun a y1 y2 y3 y4 y5 y6 => by rw [FI a y5, F1 a y1 y3 y4, ar.2.1 a y2 y6 y3]
    have C5 : ∀ a, a ≠ 275 → a ≠ 278 → a ≠ 279 → hia h5 a = hia h2 a := fun a y1 y2 y3 => by rw [tpi, b2, mf.2.2.2.1 a y1 y2 y3]
    have CI : ∀ a, (a ≤ 26 ∨ 35 < a) → (a ≤ 43 + 10 * nx ∨ 43 + 10 * nx + 9 < a) → a ≠ 42 → a ≠ 219 → a ≠ 220 → a ≠ 275 → a ≠ 278 → a ≠ 279 → hia h5 a = hia h a := fun a y1 y2 z1 z2 z3 z4 z5 z6 => by rw [C5 a z4 z5 z6, IA a y1 y2 z2 z3 z1]
    have row5 : hia h5 275 = st.1 := by rw [tpi, b2]; exact i275
    have F5 : ∀ k, k ≠ 0 → k ≠ 1 → k ≠ 8 → k ≠ 11 → k ≠ 13 → k ≠ 34 → k ≠ 38 → hfi h5 273 k = hfi h 273 k := fun k y0 y1 y2 y3 y4 y5 y6 => by rw [m5.2.2.1, up1_n _ _ y1, b4, up1_n _ _ y2, mf.2.2.1 k y2 y5 y6 y3, G2 k y0 y4 y3]
    have f24 : hfi h5 24 = up1 (up1 (hfi h 24) 14 (nI st.2.2)) 13 (nI 0) := by rw [FI 24 (by omega), F24, ar.2.1 24 (by omega) (by omega) (by omega)]
    have f40 : hfi h5 40 = up1 (hfi h 40) 3 (nI 0) := by rw [FI 40 (by omega), F40, e40]
    have f214 : hfi h5 214 1 = nI 0 := by rw [FI 214 (by omega), F214, up1_s]
    have g13 : hfi h5 273 13 = nI 0 := by rw [m5.2.2.1, up1_n _ _ (by omega), b4, up1_n _ _ (by omega), mf.2.2.1 13 (by omega) (by omega) (by omega) (by omega), a4, up1_n _ _ (by omega), up1_s]
    have g11 : hfi h5 273 11 = nI st.2.2 := by rw [m5.2.2.1, up1_n _ _ (by omega), b4, up1_n _ _ (by omega)]; exact f11
    have g8 : hfi h5 273 8 = nI 0 := by rw [m5.2.2.1, up1_n _ _ (by omega), b4, up1_s]
    have g1 : hfi h5 273 1 = nI 0 := by rw [m5.2.2.1, up1_s]
    have C2 : ∀ a, 213 ≤ a → a ≠ 219 → a ≠ 220 → a ≠ 275 → a ≠ 278 → a ≠ 279 → hia h5 a = hia h a := fun a y1 y2 y3 y4 y5 y6 => CI a (by omega) (by omega) (by omega) y2 y3 y4 y5 y6
    have C0 : ∀ a, a ≤ 1 → hia h5 a = hia h a := fun a y => CI a (by omega) (by omega) (by omega) (by omega) (by omega) (by omega) (by omega) (by omega)
    have X : ∀ x, 300 ≤ x → hfi h5 x = hfi h x ∧ hia h5 x = hia h x := fun x hx => ⟨FH x (by omega) (by omega) (by omega) (by omega) (by omega) (by omega), C2 x (by omega) (by omega) (by omega) (by omega) (by omega) (by omega)⟩
    refine Pst_e (GI_mk (KI_e Z.1 SS (fun a ha => JA a (by omega) (by omega)) ⟨by rw [f24, up1_n _ _ (by omega), up1_n _ _ (by omega)], by rw [f24, up1_n _ _ (by omega), up1_n _ _ (by omega)], F5 52 (by omega) (by omega) (by omega) (by omega) (by omega) (by omega) (by omega)⟩ (fun a ha => ?_) (fun a ha => ?_)) g ?_ ⟨nx, 0, r.1, by omega, by rw [f40, up1_n _ _ (by omega)]; exact r.2.2.1, by rw [f40, up1_s], g8, fun j hj => absurd hj (Nat.not_lt_zero j)⟩ ?_ ⟨(T.1, 0), ?_⟩) ⟨⟨Z.1, Z.2.1, Z.2.2, SS⟩, C0 0 (by omega)⟩
    · by_cases z : 300 ≤ a
      · exact (X a z).1
      · exact FH a (by omega) (by omega) (by omega) (by omega) (by omega) (by omega)
    · by_cases z : a ≤ 1
      · exact C0 a z
      · exact C2 a (by omega) (by omega) (by omega) (by omega) (by omega) (by omega)
    · rw [row5]
      refine WV_lo g.2.2.2.1 lo' (NeV_a (by rw [FI 26 (by omega), F1 26 (by omega) (by omega) (by omega)]) (fun a y1 y2 => by rw [C5 a (by omega) (by omega) (by omega), a2, i1]) V') iv' (by omega) (FH 25 (by omega) (by omega) (by omega) (by omega) (by omega) (by omega)) (by rw [SS.2.2.2]) (CI 37 (by omega) (by omega) (by omega) (by omega) (by omega) (by omega) (by omega) (by omega)) (CI 38 (by omega) (by omega) (by omega) (by omega) (by omega) (by omega) (by omega) (by omega)) (fun x h1 _ => ⟨by rw [SS.1], by rw [SS.2.1], by rw [SS.2.2.1], (X x h1).1, (X x h1).2⟩)
    · obtain ⟨q1, q6, q7, q8, q9, q10⟩ := g.2.2.2.2.2.2.1
      refine ⟨by rw [C2 244 (by omega) (by omega) (by omega) (by omega) (by omega) (by omega), C2 274 (by omega) (by omega) (by omega) (by omega) (by omega) (by omega)]; exact q1, by rw [f24, up1_s, g1], by rw [f24, up1_n _ _ (by omega), up1_s, g11], by rw [f24, up1_n _ _ (by omega), up1_n _ _ (by omega), F5 48 (by omega) (by omega) (by omega) (by omega) (by omega) (by omega) (by omega)]; exact q8, by rw [FH 213 (by omega) (by omega) (by omega) (by omega) (by omega) (by omega), F5 18 (by omega) (by omega) (by omega) (by omega) (by omega) (by omega) (by omega)]; exact q9, by rw [F5 20 (by omega) (by omega) (by omega) (by omega) (by omega) (by omega) (by omega)]; exact q10⟩
    · refine ⟨?_, ?_, f214, g13⟩
      · rw [C2 215 (by omega) (by omega) (by omega) (by omega) (by omega) (by omega)]; exact ⟨by show 0 ≤ 400; omega, fun i hi => absurd hi (Nat.not_lt_zero i)⟩
      · rw [C2 282 (by omega) (by omega) (by omega) (by omega) (by omega) (by omega)]; exact ⟨by show 0 ≤ 400; omega, fun i hi => absurd hi (Nat.not_lt_zero i)⟩
