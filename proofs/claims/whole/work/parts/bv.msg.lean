/-! ===== message ===== -/
theorem i2l_q (x : Int32) (n : Nat) (hn : n < 2 ^ 31) : (lN 0 ≤ x.toInt64 ∧ x.toInt64 ≤ (nI n).toInt64 - lN 1) ↔ ∃ f, f < n ∧ x = nI f := by
  have t1 : ((nI n).toInt64 - lN 1).toInt = (n : Int) - 1 := by
    have e1 : (nI n).toInt64 = jI (n : Int) := by rw [← iI_n]; exact iI_j (by omega)
    have e2 : lN 1 = jI 1 := by decide
    rw [e1, e2, jI_sub, jI_t (by omega)]
  rw [Int64.le_iff_toInt_le, Int64.le_iff_toInt_le, t1, Int32.toInt_toInt64, lN_t (by omega)]
  constructor
  · rintro ⟨a, b⟩
    refine ⟨x.toInt.toNat, by omega, ?_⟩
    apply Int32.toInt_inj.mp
    rw [nI_toInt (by omega)]
    omega
  · rintro ⟨f, hf, rfl⟩
    rw [nI_toInt (by omega)]
    omega
theorem KP_J (h : MH) (f g : Nat → Int32) : KP h (JH h 219 220 f g) := by
  unfold JH
  exact (KP_ia h f (by unfold scr; omega) (by omega)).trans (KP_ia _ g (by unfold scr; omega) (by omega))
theorem MK.P {h h1 : MH} (m : MK h h1) : KP h h1 := by
  obtain ⟨e1, e2, e3, e4, e5⟩ := m.e
  exact ⟨e1, fun a ha _ _ _ _ => e3 a ha, ⟨by rw [e3 213 (by omega)], by rw [e3 214 (by omega)]⟩, fun k hk => e4 k (by omega) (by omega), fun a _ => by rw [e2], fun a ha => e5 a (by omega) (by omega), fun x _ => by rw [e2]⟩
theorem x_rankO (dd k f t d : Nat) (hk : k < 3) (hf : f < 7) (ht : t < 7) (hd : d ≤ 9999) {Lo : Option LWS} {lv : Value} {h : MH} (hJ : JS h 218 219 220) (P : PO h lv Lo) {e : EV} (he : EOK e) (h0 : e 0 = k) (h1 : e 1 = f) (h2 : e 2 = t) (h3 : e 3 = d) (h4 : hia h 219 4 = iI (e 4)) (h5 : hia h 219 5 = iI (e 5)) (h6 : hia h 219 6 = iI (e 6)) (Q : RT) (kk : ∀ f g, Q (some (.int (nI (jRankO Lo e)))) (JH h 219 220 f g)) : callD (dd + 3) 11 [.ref 218, lv, .int (nI (k + 4 * f + 32 * t + 256 * d))] h Q := by
  cases Lo with
  | none =>
    have P : lv = .null := P
    subst P
    have K := kk (hia h 219) (hia h 220)
    rw [JH_id] at K
    rw [En_Ju_rank]
    simp only [U_Ju_rank (cm _), SA, SB, SG, SV, true_or, true_implies, true_and]
    exact K
  | some L =>
    obtain ⟨a, rfl, P⟩ := P
    exact x_rank dd 218 a 219 220 k f t d hk hf ht hd hJ P (by omega) (by omega) he h0 h1 h2 h3 h4 h5 h6 Q (fun g => kk _ g)
theorem x_msg4 (d i : Nat) {h : MH} {p : RW} (g : GI h) (hp : hia h 275 = p) {Lo : Option LWS} {lv : Value} (l : LV h p Lo lv) {k f t dd w tm md : Nat} (mv : MV p i k f t dd) (hi : i < ql p) (e6 : p 6 = nI w) (e5 : p 5 = nI tm) (e4 : p 4 = nI md) (w1 : w ≤ 400) (t1 : tm ≤ 999) (m1 : md ≤ 9) (Q : RT) (kk : ∀ f' g, Q (some (.int (nI (jRankO Lo (eMs k f t dd w tm md))))) (JH h 219 220 f' g)) : callD (d + 4) 81 [.ref 24, .int (nI i), .int (nI 4)] h Q := by
  obtain ⟨V, iv, ⟨-, -, -, -, -⟩, -⟩ := g.2.2.2.1
  rw [hp] at V iv
  have s := g.1
  have so := (s).1
  unfold XSo at so
  have sw := WoS_25 (s)
  unfold WoS at sw
  simp only [Nat.reduceAdd] at sw
  have hS := s.2.2.2.2.2.1.1
  obtain ⟨sh, -⟩ := (hS).all
  simp only [Nat.reduceAdd] at sh
  have q4 := iv.q.2
  have v9 := (V.2.2.2.2.2.2.2.2.1 i hi).trans mv.pk
  simp only [Nat.reduceAdd] at v9
  have e9 : hfi h 26 9 = nI w := V.2.2.2.2.2.2.2.2.2.1.trans e6
  have e12 : hfi h 26 12 = nI tm := V.2.2.2.2.2.2.2.2.2.2.2.2.trans e5
  have qw : ql p = w := ql_of e6 (by omega)
  have sJ := s.2.2.2.1
  have l25 : hfi h 25 5 = p 2 := l.1
  have l28 : hfi h 25 8 = nI md := l.2.1.trans e4
  have LA := fun Q => x_looksA (d + 2) 218 219 220 26 (nI md) sJ hS.1 Q
  rw [e9, e12] at LA
  have e1 : JH h 219 220 (fl (hia h 219) (nI w) (nI tm) (nI md)) (hia h 220) = sIA h 219 (fl (hia h 219) (nI w) (nI tm) (nI md)) := by
    have := sIA_id (sIA h 219 (fl (hia h 219) (nI w) (nI tm) (nI md))) 220
    rw [hia_n _ _ (by omega)] at this
    exact this
  have l' := LV_J (fa := 219) (sk := 220) (f := fl (hia h 219) (nI w) (nI tm) (nI md)) (g := hia h 220) (by omega) (by omega) l
  rw [e1] at l'
  have LW := w_lawAt (d + 2) (h := sIA h 219 (fl (hia h 219) (nI w) (nI tm) (nI md))) (Lo := Lo) (lv := lv) (WoS_25 (XS_e (she_ia h 219 (fl (hia h 219) (nI w) (nI tm) (nI md))).1.2.2.2 s)) l'
  have he : EOK (eMs (k : Int) f t dd w tm md) := by
    obtain ⟨m1', m2', m3', m4', -⟩ := mv
    exact eMs_ok (by omega) (by omega) (by omega) (by omega) (by omega) (by omega) (by omega)
  rw [E_Di_message]
  simp (disch := omega) only [U_Di_message (cm _), SA, SB, SC1, SC2, SG, SK, SV, so, sw, sh, e9, v9, ltI, Nat.not_lt_zero, show i < w by omega, nI_clamp, in_eq, Nat.reduceLeDiff, true_or, or_true, true_implies, not_true_eq_false, not_false_eq_true, false_implies, true_and, and_true]
  rw [tsw_hit 4 (by decide) (by decide)]
  simp (disch := omega) only [U_Di_message (cm _), SA, SB, SC1, SC2, SG, SK, SV, List.getD_cons_zero, List.getD_cons_succ, so, sw, sh, sJ.1.1, l25, l28, LA, LW, true_or, or_true, true_implies, not_true_eq_false, not_false_eq_true, false_implies, true_and, and_true]
  refine x_rankO d k f t dd mv.1 mv.2.1 mv.2.2.1 mv.2.2.2.1 (Lo := Lo) (e := eMs (k : Int) f t dd w tm md) (h := sIA h 219 (fl (hia h 219) (nI w) (nI tm) (nI md))) sJ l'.P he rfl rfl rfl rfl ?_ ?_ ?_ _ (fun f' g' => ?_)
  · rw [hia_s]; unfold fl; simp (disch := omega) only [up1_n, up1_s]; exact (iI_n w).symm
  · rw [hia_s]; unfold fl; simp (disch := omega) only [up1_n, up1_s]; exact (iI_n tm).symm
  · rw [hia_s]; unfold fl; simp (disch := omega) only [up1_n, up1_s]; exact (iI_n md).symm
  · have e2 : JH (sIA h 219 (fl (hia h 219) (nI w) (nI tm) (nI md))) 219 220 f' g' = JH h 219 220 f' g' := by unfold JH; rw [SK.2.2.2.1]
    rw [e2]
    simp only [U_Di_message (cm _), SA, SB, SG, SV]
    exact kk f' g'
theorem x_msg (d i w : Nat) {h : MH} {p : RW} (g : GI h) (hp : hia h 275 = p) (hi : i < ql p) (hw : w < 4) (Q : RT) : callD (d + 2) 81 [.ref 24, .int (nI i), .int (nI w)] h Q = Q (some (.int (p (154 + 4 * i + w)))) h := by
  obtain ⟨V, iv, -⟩ := g.2.2.2.1
  rw [hp] at V iv
  have s := g.1
  have so := (s).1
  unfold XSo at so
  have sw := WoS_25 (s)
  unfold WoS at sw
  simp only [Nat.reduceAdd] at sw
  have hS := s.2.2.2.2.2.1.1
  obtain ⟨sh, -⟩ := (hS).all
  simp only [Nat.reduceAdd] at sh
  have q4 := iv.q.2
  obtain ⟨k, f, t, dd, mv, -⟩ := iv.1.2.1 i hi
  have v9 := (V.2.2.2.2.2.2.2.2.1 i hi).trans mv.pk
  simp only [Nat.reduceAdd] at v9
  have e9 : hfi h 26 9 = nI (ql p) := V.2.2.2.2.2.2.2.2.2.1.trans iv.q.1
  obtain ⟨m1, m2, m3, m4, n1, n2, n3, n4⟩ := mv
  have A := fun h Q => e_kindOf d k f t dd m1 m2 m3 m4 h Q
  have B := fun h Q => e_fromOf d k f t dd m1 m2 m3 m4 h Q
  have C := fun h Q => e_toOf d k f t dd m1 m2 m3 m4 h Q
  have D := fun h Q => e_distanceOf d k f t dd m1 m2 m3 m4 h Q
  rw [E_Di_message]
  rcases (show w = 0 ∨ w = 1 ∨ w = 2 ∨ w = 3 by omega) with rfl | rfl | rfl | rfl
  · simp (disch := omega) only [U_Di_message (cm _), SA, SB, SC1, SC2, SG, SK, SV, so, sw, sh, e9, v9, ltI, Nat.not_lt_zero, hi, nI_clamp, in_eq, Nat.reduceLeDiff, true_or, or_true, true_implies, not_true_eq_false, not_false_eq_true, false_implies, true_and, and_true]
    rw [tsw_hit 0 (by decide) (by decide), show 154 + 4 * i + 0 = 154 + 4 * i from rfl, n1]
    simp (disch := omega) only [U_Di_message (cm _), SA, SB, SC1, SC2, SG, SK, SV, List.getD_cons_zero, List.getD_cons_succ, A, true_or, or_true, true_implies, not_true_eq_false, not_false_eq_true, false_implies, true_and, and_true]
  · simp (disch := omega) only [U_Di_message (cm _), SA, SB, SC1, SC2, SG, SK, SV, so, sw, sh, e9, v9, ltI, Nat.not_lt_zero, hi, nI_clamp, in_eq, Nat.reduceLeDiff, true_or, or_true, true_implies, not_true_eq_false, not_false_eq_true, false_implies, true_and, and_true]
    rw [tsw_hit 1 (by decide) (by decide), n2]
    simp (disch := omega) only [U_Di_message (cm _), SA, SB, SC1, SC2, SG, SK, SV, List.getD_cons_zero, List.getD_cons_succ, B, true_or, or_true, true_implies, not_true_eq_false, not_false_eq_true, false_implies, true_and, and_true]
  · simp (disch := omega) only [U_Di_message (cm _), SA, SB, SC1, SC2, SG, SK, SV, so, sw, sh, e9, v9, ltI, Nat.not_lt_zero, hi, nI_clamp, in_eq, Nat.reduceLeDiff, true_or, or_true, true_implies, not_true_eq_false, not_false_eq_true, false_implies, true_and, and_true]
    rw [tsw_hit 2 (by decide) (by decide), n3]
    simp (disch := omega) only [U_Di_message (cm _), SA, SB, SC1, SC2, SG, SK, SV, List.getD_cons_zero, List.getD_cons_succ, C, true_or, or_true, true_implies, not_true_eq_false, not_false_eq_true, false_implies, true_and, and_true]
  · simp (disch := omega) only [U_Di_message (cm _), SA, SB, SC1, SC2, SG, SK, SV, so, sw, sh, e9, v9, ltI, Nat.not_lt_zero, hi, nI_clamp, in_eq, Nat.reduceLeDiff, true_or, or_true, true_implies, not_true_eq_false, not_false_eq_true, false_implies, true_and, and_true]
    rw [tsw_hit 3 (by decide) (by decide), n4]
    simp (disch := omega) only [U_Di_message (cm _), SA, SB, SC1, SC2, SG, SK, SV, List.getD_cons_zero, List.getD_cons_succ, D, true_or, or_true, true_implies, not_true_eq_false, not_false_eq_true, false_implies, true_and, and_true]
theorem op_message (i w : Int32) : PairOp 7 81 155 [.int i, .int w] := PairK (fun d h g => by
  obtain ⟨V, iv, -, -, -, ⟨md, md1, md2⟩, -⟩ := g.2.2.2.1
  obtain ⟨Lo, lv, l, fo⟩ := WV_law g.2.2.2.1
  obtain ⟨nw, tm, w1, t1, w2, t2, w3⟩ := iv_nums iv
  have I1 := fun h Q => e_in (d + 5) i.toInt64 (lN 0) ((nI nw).toInt64 - lN 1) h Q
  have I2 := fun h Q => e_in (d + 5) w.toInt64 (lN 0) (lN 4) h Q
  have q1 := i2l_q i nw (by omega)
  have q2 := i2l_r w 4 (by omega)
  by_cases c1 : ∃ f, f < nw ∧ i = nI f
  · rw [b01_t (q1.mpr c1)] at I1
    obtain ⟨i', hi, rfl⟩ := c1
    by_cases c2 : rgI w 4
    · rw [b01_t (by rw [q2]; exact c2)] at I2
      obtain ⟨w', hw, rfl⟩ := rg_n (by omega) c2
      by_cases c4 : w' = 4
      · subst c4
        obtain ⟨k, f, t, dd, mv, -⟩ := iv.1.2.1 i' (by omega)
        refine ⟨.int (nI (jRankO Lo (eMs k f t dd nw tm md))), fun Q K => ?_, fun h1 kp g1 Q K => ?_⟩
        · exact x_msg4 (d + 3) i' g rfl l mv (by omega) w2 t2 md2 w1 t1 md1 Q (fun f' g' => K _ (KP_J h f' g'))
        · have e1 : hia h1 275 = hia h 275 := kp.2.2.2.2.1 275 (scr_n (by omega))
          obtain ⟨hM2, ei2, ef2, kp2⟩ := thM g1.2.1.1
          have k8 := g1.2.1.1.1
          have h20 : hfi (thH h1) 273 20 = nI 0 := (ef2 20 (by omega)).trans g1.2.2.2.2.2.2.1.2.2.2.2.2
          generalize hh : thH h1 = h2 at *
          unfold thH at hh
          obtain ⟨k82, r2, r3, r4⟩ := hM2.row
          have e2 : hia h2 275 = hia h 275 := by rw [ei2, e1]
          have x6 : hia h2 275 6 = nI nw := by rw [e2]; exact w2
          rw [E_Mo_message]
          simp (disch := omega) only [U_Mo_message (cm _), SA, SB, SC1, SC2, SG, SK, SV, hh, k8, k82, r2, r3, r4, x6, I1, I2, eqI, Nat.one_ne_zero, nI_clamp, in_eq, Nat.reduceLeDiff, true_or, or_true, true_implies, not_true_eq_false, not_false_eq_true, false_implies, true_and, and_true]
          refine m_rank d i' k f t dd nw tm md hM2 h20 (by rw [e2]; exact fo) (by rw [e2]; exact mv) (by omega) x6 (by rw [e2]; exact t2) (by rw [e2]; exact md2) (by omega) t1 md1 _ (fun h3 mk => ?_)
          simp only [U_Mo_message (cm _), SA, SB, SG, SV]
          exact K h3 (kp2.trans mk.P)
      · refine ⟨.int (hia h 275 (154 + 4 * i' + w')), fun Q K => ?_, fun h1 kp g1 Q K => ?_⟩
        · rw [x_msg (d + 5) i' w' g rfl (by omega) (by omega)]
          exact K h (KP.refl h)
        · have e1 : hia h1 275 = hia h 275 := kp.2.2.2.2.1 275 (scr_n (by omega))
          obtain ⟨hM2, ei2, ef2, kp2⟩ := thM g1.2.1.1
          have k8 := g1.2.1.1.1
          have Y := K _ kp2
          generalize hh : thH h1 = h2 at *
          unfold thH at hh
          obtain ⟨k82, r2, r3, r4⟩ := hM2.row
          have e2 : hia h2 275 = hia h 275 := by rw [ei2, e1]
          have x6 : hia h2 275 6 = nI nw := by rw [e2]; exact w2
          have MA := fun h Q => e_messageAt (d + 5) i' h Q
          rw [← e2] at Y
          rw [E_Mo_message]
          simp (disch := omega) only [U_Mo_message (cm _), SA, SB, SC1, SC2, SG, SK, SV, hh, k8, k82, r2, r3, r4, x6, I1, I2, MA, eqI, c4, Nat.one_ne_zero, nI_add, nI_clamp, in_eq, Nat.reduceLeDiff, true_or, or_true, true_implies, not_true_eq_false, not_false_eq_true, false_implies, true_and, and_true]
          exact Y
    · rw [b01_f (by rw [q2]; exact c2)] at I2
      refine ⟨.int (-1), fun Q K => ?_, fun h1 kp g1 Q K => ?_⟩
      · have Y := K h (KP.refl h)
        have s := g.1
        have so := (s).1
        unfold XSo at so
        have sw := WoS_25 (s)
        unfold WoS at sw
        simp only [Nat.reduceAdd] at sw
        obtain ⟨sh, -⟩ := (s.2.2.2.2.2.1.1).all
        simp only [Nat.reduceAdd] at sh
        have e9 : hfi h 26 9 = nI nw := V.2.2.2.2.2.2.2.2.2.1.trans w2
        rw [E_Di_message]
        simp (disch := omega) only [U_Di_message (cm _), SA, SB, SC1, SC2, SG, SK, SV, so, sw, sh, e9, ltI, Nat.not_lt_zero, hi, nI_clamp, in_eq, Nat.reduceLeDiff, true_or, or_true, true_implies, not_true_eq_false, not_false_eq_true, false_implies, true_and, and_true]
        rw [tsw_miss (by
          rcases rg_no (by omega) c2 with z | ⟨z1, z2⟩
          · left
            rw [Int32.lt_iff_toInt_lt] at z; exact z
          · right
            rw [Int32.le_iff_toInt_le, nI_toInt (by omega)] at z2; exact z2)]
        exact Y
      · have e1 : hia h1 275 = hia h 275 := kp.2.2.2.2.1 275 (scr_n (by omega))
        obtain ⟨hM2, ei2, ef2, kp2⟩ := thM g1.2.1.1
        have k8 := g1.2.1.1.1
        have Y := K _ kp2
        generalize hh : thH h1 = h2 at *
        unfold thH at hh
        obtain ⟨k82, r2, r3, r4⟩ := hM2.row
        have x6 : hia h2 275 6 = nI nw := by rw [ei2, e1]; exact w2
        rw [E_Mo_message]
        simp (disch := omega) only [U_Mo_message (cm _), SA, SB, SC1, SC2, SG, SK, SV, hh, k8, k82, r2, r3, r4, x6, I1, I2, eqI, Nat.one_ne_zero, nI_clamp, in_eq, Nat.reduceLeDiff, true_or, or_true, true_implies, not_true_eq_false, not_false_eq_true, false_implies, true_and, and_true]
        exact Y
  · rw [b01_f (fun z => c1 (q1.mp z))] at I1
    refine ⟨.int (-1), fun Q K => ?_, fun h1 kp g1 Q K => ?_⟩
    · have Y := K h (KP.refl h)
      have s := g.1
      have so := (s).1
      unfold XSo at so
      have sw := WoS_25 (s)
      unfold WoS at sw
      simp only [Nat.reduceAdd] at sw
      obtain ⟨sh, -⟩ := (s.2.2.2.2.2.1.1).all
      simp only [Nat.reduceAdd] at sh
      have e9 : hfi h 26 9 = nI nw := V.2.2.2.2.2.2.2.2.2.1.trans w2
      rw [E_Di_message]
      by_cases a1 : i < nI 0
      · simp (disch := omega) only [U_Di_message (cm _), SA, SB, SC1, SC2, SG, SK, SV, a1, true_or, or_true, true_implies, not_true_eq_false, not_false_eq_true, false_implies, true_and, and_true]
        exact Y
      · have a2 : ¬ i < nI nw := fun z => c1 (by
          rw [Int32.lt_iff_toInt_lt, nI_toInt (by omega)] at z a1
          refine ⟨i.toInt.toNat, by omega, ?_⟩
          apply Int32.toInt_inj.mp
          rw [nI_toInt (by omega)]
          omega)
        simp (disch := omega) only [U_Di_message (cm _), SA, SB, SC1, SC2, SG, SK, SV, so, sw, sh, e9, a1, a2, true_or, or_true, true_implies, not_true_eq_false, not_false_eq_true, false_implies, true_and, and_true]
        exact Y
    · have e1 : hia h1 275 = hia h 275 := kp.2.2.2.2.1 275 (scr_n (by omega))
      obtain ⟨hM2, ei2, ef2, kp2⟩ := thM g1.2.1.1
      have k8 := g1.2.1.1.1
      have Y := K _ kp2
      generalize hh : thH h1 = h2 at *
      unfold thH at hh
      obtain ⟨k82, r2, r3, r4⟩ := hM2.row
      have x6 : hia h2 275 6 = nI nw := by rw [ei2, e1]; exact w2
      rw [E_Mo_message]
      simp (disch := omega) only [U_Mo_message (cm _), SA, SB, SC1, SC2, SG, SK, SV, hh, k8, k82, r2, r3, r4, x6, I1, eqI, Nat.one_ne_zero, nI_clamp, in_eq, Nat.reduceLeDiff, true_or, or_true, true_implies, not_true_eq_false, not_false_eq_true, false_implies, true_and, and_true]
      exact Y)
