/-! ===== the program's object ===== -/
def WoS (h : MH) (W : Nat) : Prop := hkd h W = 6 ∧ hfr h W 0 = some (W + 1) ∧ hfr h W 1 = some (W + 11) ∧ hkd h (W + 11) = 24 ∧ hln h (W + 11) = 6 ∧ hfr h W 2 = some (W + 12) ∧ hkd h (W + 12) = 20 ∧ hln h (W + 12) = 6 ∧ hfr h W 3 = some (W + 13) ∧ hkd h (W + 13) = 20 ∧ hln h (W + 13) = 6
def XSo (h : MH) : Prop := hkd h 24 = 7 ∧ hfr h 24 0 = some 25 ∧ hfr h 24 1 = some 39 ∧ hfr h 24 3 = some 40 ∧ hfr h 24 4 = some 213 ∧ hfr h 24 5 = some 218 ∧ hfr h 24 6 = some 221 ∧ hfr h 24 7 = some 231 ∧ hfr h 24 9 = some 241 ∧ hfr h 24 10 = some 242 ∧ hfr h 24 11 = some 243 ∧ hfr h 24 12 = some 244 ∧ hkd h 241 = 20 ∧ hln h 241 = 7 ∧ hkd h 242 = 21 ∧ hln h 242 = 20 ∧ hkd h 243 = 20 ∧ hln h 243 = 3 ∧ hkd h 244 = 20 ∧ hln h 244 = 5 ∧ hkd h 39 = 25 ∧ hln h 39 = 2
def XSr (h : MH) : Prop := hkd h 213 = 4 ∧ hfr h 213 0 = some 214 ∧ hfr h 213 1 = some 216 ∧ hfr h 213 2 = some 217 ∧ hkd h 214 = 5 ∧ hfr h 214 0 = some 215 ∧ hkd h 215 = 20 ∧ hln h 215 = 400 ∧ hkd h 216 = 20 ∧ hln h 216 = 448 ∧ hkd h 217 = 20 ∧ hln h 217 = 72
def XSh (h : MH) : Prop := hkd h 40 = 0 ∧ hfr h 40 0 = some 41 ∧ hkd h 41 = 23 ∧ hln h 41 = 17 ∧ hfr h 40 1 = some 42 ∧ hkd h 42 = 20 ∧ hln h 42 = 17
/-- the object's cells: objects, arrays, who refers to whom -/
def XS (h : MH) : Prop := XSo h ∧ XSr h ∧ XSh h ∧ JS h 218 219 220 ∧ (WoS h 25 ∧ WoS h 245 ∧ WoS h 259) ∧ (NeS h 26 ∧ NeS h 221 ∧ NeS h 231 ∧ NeS h 246 ∧ NeS h 260) ∧ (∀ i, i < 17 → NeS h (43 + 10 * i) ∧ hra h 41 i = some (43 + 10 * i)) ∧ hra h 39 0 = some 245 ∧ hra h 39 1 = some 259
/-- shapes are kept -/
def SHE (h h' : MH) : Prop := hkd h' = hkd h ∧ hln h' = hln h ∧ hfr h' = hfr h ∧ hra h' = hra h
theorem NeS_e {h h' : MH} {n : Nat} (e : SHE h h') (s : NeS h n) : NeS h' n := by
  obtain ⟨e1, e2, e3, -⟩ := e
  unfold NeS AF at *
  rw [e1, e2, e3]
  exact s
theorem XS_e {h h' : MH} (e : SHE h h') (s : XS h) : XS h' := by
  obtain ⟨s1, s2, s3, s4, s5, s6, s7, s8⟩ := s
  have e' := e
  obtain ⟨e1, e2, e3, e4⟩ := e
  refine ⟨?_, ?_, ?_, ?_, ?_, ⟨NeS_e e' s6.1, NeS_e e' s6.2.1, NeS_e e' s6.2.2.1, NeS_e e' s6.2.2.2.1, NeS_e e' s6.2.2.2.2⟩, fun i hi => ⟨NeS_e e' (s7 i hi).1, by rw [e4]; exact (s7 i hi).2⟩, by rw [e4]; exact s8⟩
  · unfold XSo at *; rw [e1, e2, e3]; exact s1
  · unfold XSr at *; rw [e1, e2, e3]; exact s2
  · unfold XSh at *; rw [e1, e2, e3]; exact s3
  · unfold JS at *; rw [e1, e2, e3]; exact s4
  · unfold WoS at *; rw [e1, e2, e3]; exact s5
theorem SHE.refl (h : MH) : SHE h h := ⟨rfl, rfl, rfl, rfl⟩
theorem SHE.trans {a b c : MH} (x : SHE a b) (y : SHE b c) : SHE a c := ⟨y.1.trans x.1, y.2.1.trans x.2.1, y.2.2.1.trans x.2.2.1, y.2.2.2.trans x.2.2.2⟩
theorem NF.e {n : Nat} {h h' : MH} (x : NF n h h') : SHE h h' := ⟨x.1.2.2.2.1, x.1.2.2.2.2.1, x.1.2.2.2.2.2.2.1, x.1.2.2.2.2.2.2.2.2⟩
theorem xd_isRouter (d : Nat) (x : Int32) (h : MH) (Q : RT) : callD (d + 1) 113 [.int x] h Q = Q (some (.int (b01 (isR x)))) h := by
  rw [E_Di_isRouter]
  by_cases c1 : nI 0 ≤ x
  · have c1' : ¬ x < nI 0 := Int32.not_lt.mpr c1
    by_cases c2 : x ≤ nI 6
    · have c2' : ¬ nI 7 ≤ x := fun z => by
        have := Int32.le_trans z c2
        rw [leI (by omega) (by omega)] at this
        omega
      rw [b01_t ⟨c1, c2⟩]
      simp (disch := omega) only [U_Di_isRouter (cm _), SA, SB, SG, SV, c1', c2', true_or, or_true, true_implies, not_true_eq_false, not_false_eq_true, false_implies, true_and, and_true]
    · have c2' : nI 7 ≤ x := by
        have z := Int32.not_le.mp c2
        rw [Int32.lt_iff_toInt_lt, nI_toInt (by omega)] at z
        rw [Int32.le_iff_toInt_le, nI_toInt (by omega)]
        omega
      rw [b01_f (fun q => c2 q.2)]
      simp (disch := omega) only [U_Di_isRouter (cm _), SA, SB, SG, SV, c1', c2', true_or, or_true, true_implies, not_true_eq_false, not_false_eq_true, false_implies, true_and, and_true]
  · have c1' : x < nI 0 := Int32.not_le.mp c1
    rw [b01_f (fun q => c1 q.1)]
    simp (disch := omega) only [U_Di_isRouter (cm _), SA, SB, SG, SV, c1', true_or, or_true, true_implies, not_true_eq_false, not_false_eq_true, false_implies, true_and, and_true]
theorem xd_arePair (d : Nat) (x y : Int32) (h : MH) (Q : RT) : callD (d + 2) 114 [.int x, .int y] h Q = Q (some (.int (b01 (isR x ∧ isR y ∧ ¬ x = y)))) h := by
  rw [E_Di_arePair]
  by_cases c1 : isR x
  · by_cases c2 : isR y
    · by_cases c3 : x = y
      · rw [b01_f (fun q => q.2.2 c3)]
        simp (disch := omega) only [U_Di_arePair (cm _), SA, SB, SC1, SC2, SG, SV, xd_isRouter, b01_t c1, b01_t c2, eqI, Nat.one_ne_zero, c3, true_or, or_true, true_implies, not_true_eq_false, not_false_eq_true, false_implies, true_and, and_true]
      · rw [b01_t ⟨c1, c2, c3⟩]
        simp (disch := omega) only [U_Di_arePair (cm _), SA, SB, SC1, SC2, SG, SV, xd_isRouter, b01_t c1, b01_t c2, eqI, Nat.one_ne_zero, c3, true_or, or_true, true_implies, not_true_eq_false, not_false_eq_true, false_implies, true_and, and_true]
    · rw [b01_f (fun q => c2 q.2.1)]
      simp (disch := omega) only [U_Di_arePair (cm _), SA, SB, SC1, SC2, SG, SV, xd_isRouter, b01_t c1, b01_f c2, eqI, Nat.one_ne_zero, true_or, or_true, true_implies, not_true_eq_false, not_false_eq_true, false_implies, true_and, and_true]
  · rw [b01_f (fun q => c1 q.1)]
    simp (disch := omega) only [U_Di_arePair (cm _), SA, SB, SC1, SC2, SG, SV, xd_isRouter, b01_f c1, eqI, Nat.one_ne_zero, true_or, or_true, true_implies, not_true_eq_false, not_false_eq_true, false_implies, true_and, and_true]
/-- the law in force in the program's world, that of the row beside it -/
def LV (h : MH) (p : RW) (Lo : Option LWS) (lv : Value) : Prop := hfi h 25 5 = p 2 ∧ hfi h 25 8 = p 4 ∧ RN p ∧ match Lo with
  | none => p 2 = -1 ∧ lv = .null
  | some L => ∃ f nl a, p 2 = nI f ∧ f < nl ∧ nl ≤ 6 ∧ hfi h 25 4 = nI nl ∧ hra h 36 f = some a ∧ lv = .ref a ∧ PX h a L
theorem LV.P {h : MH} {p : RW} {Lo : Option LWS} {lv : Value} (l : LV h p Lo lv) : PO h lv Lo := by
  obtain ⟨-, -, -, l⟩ := l
  cases Lo with
  | none => exact l.2
  | some L =>
    obtain ⟨f, nl, a, -, -, -, -, -, e, P⟩ := l
    exact ⟨a, e, P⟩
theorem w_lawAt (d : Nat) {h : MH} {p : RW} {Lo : Option LWS} {lv : Value} (s : WoS h 25) (l : LV h p Lo lv) (Q : RT) : callD (d + 1) 75 [.ref 25, .int (p 2)] h Q = Q (some lv) h := by
  obtain ⟨s1, s2, s3, s4, s5, -⟩ := s
  obtain ⟨-, -, -, l⟩ := l
  rw [E_Wo_lawAt]
  cases Lo with
  | none =>
    obtain ⟨l1, rfl⟩ := l
    have z : (-1 : Int32) < nI 0 := by decide
    simp (disch := omega) only [U_Wo_lawAt (cm _), SA, SB, SG, SV, l1, z, true_implies, not_true_eq_false, not_false_eq_true, false_implies, true_and, and_true]
  | some L =>
    obtain ⟨f, nl, a, l1, l2, l3, l4, l5, rfl, -⟩ := l
    simp (disch := omega) only [U_Wo_lawAt (cm _), SA, SB, SG, SV, s1, s3, s4, s5, l1, l4, l5, leI, ltI, show ¬ f < 0 by omega, show ¬ nl ≤ f by omega, nI_clamp, in_eq, Nat.reduceLeDiff, true_implies, not_true_eq_false, not_false_eq_true, false_implies, true_and, and_true]
theorem LV_J {h : MH} {p : RW} {Lo : Option LWS} {lv : Value} {fa sk : Nat} {f g : Nat → Int32} (h1 : fa < 300) (h2 : sk < 300) (l : LV h p Lo lv) : LV (JH h fa sk f g) p Lo lv := by
  obtain ⟨l1, l2, l3, l⟩ := l
  refine ⟨l1, l2, l3, ?_⟩
  cases Lo with
  | none => exact l
  | some L =>
    obtain ⟨f, nl, a, a1, a2, a3, a4, a5, a6, P⟩ := l
    exact ⟨f, nl, a, a1, a2, a3, a4, a5, a6, PX_J h1 h2 P⟩
theorem x_barsO (dd : Nat) {Lo : Option LWS} {lv : Value} (one other costs : Int32) {h : MH} (hJ : JS h 218 219 220) (P : PO h lv Lo) {e : EV} (he : EOK e) (h0 : e 0 = -1) (h1 : one = iI (e 1)) (h2 : other = iI (e 2)) (h3 : costs = iI (e 3)) (h4 : hia h 219 4 = iI (e 4)) (h5 : hia h 219 5 = iI (e 5)) (h6 : hia h 219 6 = iI (e 6)) (Q : RT) (kk : ∀ f g, Q (some (.int (b01 (jBarO Lo e = true)))) (JH h 219 220 f g)) : callD (dd + 3) 12 [.ref 218, lv, .int one, .int other, .int costs] h Q := by
  cases Lo with
  | none =>
    have P : lv = .null := P
    subst P
    have K := kk (hia h 219) (hia h 220)
    rw [JH_id, show jBarO none e = false from rfl, b01_f (by decide)] at K
    rw [En_Ju_bars]
    simp only [U_Ju_bars (cm _), SA, SB, SG, SV, true_or, true_implies, true_and]
    exact K
  | some L =>
    obtain ⟨a, rfl, P⟩ := P
    exact x_bars dd 218 a 219 220 one other costs hJ P (by omega) (by omega) he h0 h1 h2 h3 h4 h5 h6 Q (fun g => kk _ g)
set_option maxHeartbeats 2000000 in
theorem x_refusal (d N kd : Nat) (hkd3 : kd < 3) {Lo : Option LWS} {lv : Value} {h : MH} {p : RW} (s : XS h) (hS : NeS h N) (hV : NeV h N p) (sj : sepJ N 219 220) (v : IV p) (l : LV h p Lo lv) (one other costs : Int32) (Q : RT) (kk : ∀ f g, Q (some (.int (aRef Lo p kd one other costs))) (JH h 219 220 f g)) : callD (d + 4) 121 [.ref 24, .ref N, .int (nI kd), .int one, .int other, .int costs] h Q := by
  obtain ⟨so, -, -, sJ, ⟨sw, -⟩, -⟩ := s
  unfold XSo at so
  obtain ⟨w, tm, w1, t1, w2, t2, w3⟩ := iv_nums v
  have l' := l
  obtain ⟨l1, l2, ⟨md, md1, md2⟩, -⟩ := l
  obtain ⟨sh, -⟩ := hS.all
  have K0 := kk (hia h 219) (hia h 220)
  rw [JH_id] at K0
  have e9 : hfi h N 9 = p 6 := hV.2.2.2.2.2.2.2.2.2.1
  have e12 : hfi h N 12 = p 5 := hV.2.2.2.2.2.2.2.2.2.2.2.2
  rw [E_Di_refusalOf]
  unfold aRef at kk K0
  rcases (show kd = 0 ∨ kd = 1 ∨ kd = 2 by omega) with rfl | rfl | rfl
  · rw [if_neg (by omega), if_neg (by omega)] at kk K0
    by_cases cp : isR one ∧ isR other ∧ ¬ one = other
    · have AP := fun Q => xd_arePair (d + 1) one other h Q
      simp only [b01_t cp] at AP
      by_cases cc : nI 0 ≤ costs ∧ costs ≤ nI 50
      · rw [if_pos ⟨cp.1, cp.2.1, cp.2.2, cc⟩] at kk K0
        obtain ⟨r1, r2, r3⟩ := cp
        obtain ⟨a, ha, rfl⟩ := isR_n r1
        obtain ⟨b, hb, rfl⟩ := isR_n r2
        obtain ⟨c, hc, rfl⟩ := rng_n (by omega) cc
        rw [nn_n (by omega), nn_n (by omega), w2, t2, md2, nI_toInt (by omega), nI_toInt (by omega), nI_toInt (by omega), nI_toInt (by omega), nI_toInt (by omega), nI_toInt (by omega)] at kk K0
        have ec := hV.1 a b ha hb
        have c0 : ¬ c < 0 := by omega
        by_cases c1 : gC p a b = nI c
        · rw [if_pos (Or.inl c1)] at K0
          simp (disch := omega) only [U_Di_refusalOf (cm _), SA, SB, SC1, SC2, SG, SV, so, sh, AP, ec, c1, eqI, ltI, leI, c0, hc, Nat.one_ne_zero, Nat.reduceEqDiff, pk_mul, nI_add, nI_clamp, in_eq, true_implies, not_true_eq_false, not_false_eq_true, false_implies, true_and, and_true]
          exact K0
        · have LA := fun Q => x_looksA (d + 2) 218 219 220 N (nI md) sJ hS.1 Q
          rw [e9, e12, w2, t2] at LA
          have he : EOK (eMs (-1) (a : Int) b c w tm md) := eMs_ok (by omega) (by omega) (by omega) (by omega) (by omega) (by omega) (by omega)
          have LW := w_lawAt (d + 2) (h := sIA h 219 (fl (hia h 219) (nI w) (nI tm) (nI md))) (Lo := Lo) (lv := lv) sw (by
            have := LV_J (fa := 219) (sk := 220) (f := fl (hia h 219) (nI w) (nI tm) (nI md)) (g := hia h 220) (by omega) (by omega) l'
            have e1 : JH h 219 220 (fl (hia h 219) (nI w) (nI tm) (nI md)) (hia h 220) = sIA h 219 (fl (hia h 219) (nI w) (nI tm) (nI md)) := by
              have := sIA_id (sIA h 219 (fl (hia h 219) (nI w) (nI tm) (nI md))) 220
              rw [hia_n _ _ (by omega)] at this
              exact this
            rw [e1] at this
            exact this)
          have l25 : hfi h 25 5 = p 2 := l1
          have l28 : hfi h 25 8 = nI md := l2.trans md2
          have k25 : hkd h 25 = 6 := sw.1
          simp (disch := omega) only [U_Di_refusalOf (cm _), SA, SB, SC1, SC2, SG, SV, so, sh, sJ.1.1, AP, LA, l25, l28, k25, LW, ec, c1, eqI, ltI, leI, c0, hc, Nat.one_ne_zero, Nat.reduceEqDiff, pk_mul, nI_add, nI_clamp, in_eq, true_implies, not_true_eq_false, not_false_eq_true, false_implies, true_and, and_true]
          refine x_barsO d (Lo := Lo) (e := eMs (-1) (a : Int) b c w tm md) (nI a) (nI b) (nI c) (h := sIA h 219 (fl (hia h 219) (nI w) (nI tm) (nI md))) sJ (by
            have := (LV_J (fa := 219) (sk := 220) (f := fl (hia h 219) (nI w) (nI tm) (nI md)) (g := hia h 220) (by omega) (by omega) l').P
            have e1 : JH h 219 220 (fl (hia h 219) (nI w) (nI tm) (nI md)) (hia h 220) = sIA h 219 (fl (hia h 219) (nI w) (nI tm) (nI md)) := by
              have := sIA_id (sIA h 219 (fl (hia h 219) (nI w) (nI tm) (nI md))) 220
              rw [hia_n _ _ (by omega)] at this
              exact this
            rw [e1] at this
            exact this) he rfl (iI_n a).symm (iI_n b).symm (iI_n c).symm ?_ ?_ ?_ _ (fun f g => ?_)
          · rw [hia_s]; unfold fl; simp (disch := omega) only [up1_n, up1_s]; exact (iI_n w).symm
          · rw [hia_s]; unfold fl; simp (disch := omega) only [up1_n, up1_s]; exact (iI_n tm).symm
          · rw [hia_s]; unfold fl; simp (disch := omega) only [up1_n, up1_s]; exact (iI_n md).symm
          · have e2 : JH (sIA h 219 (fl (hia h 219) (nI w) (nI tm) (nI md))) 219 220 f g = JH h 219 220 f g := by unfold JH; rw [SK.2.2.2.1]
            have K := kk f g
            rw [e2]
            by_cases c2 : jBarO Lo (eMs (-1) (a : Int) b c w tm md) = true
            · rw [if_pos (Or.inr c2)] at K
              rw [b01_t c2]
              simp (disch := omega) only [U_Di_refusalOf (cm _), SA, SB, SC1, SC2, SG, SV, eqI, Nat.one_ne_zero, true_implies, not_true_eq_false, not_false_eq_true, false_implies, true_and, and_true]
              exact K
            · rw [if_neg (not_or.mpr ⟨c1, c2⟩)] at K
              rw [b01_f c2]
              simp (disch := omega) only [U_Di_refusalOf (cm _), SA, SB, SC1, SC2, SG, SV, eqI, Nat.one_ne_zero, true_implies, not_true_eq_false, not_false_eq_true, false_implies, true_and, and_true]
              exact K
      · rw [if_neg (fun z => cc z.2.2.2)] at K0
        by_cases c1 : costs < nI 0
        · simp (disch := omega) only [U_Di_refusalOf (cm _), SA, SB, SC1, SC2, SG, SV, AP, c1, eqI, Nat.one_ne_zero, Nat.reduceEqDiff, true_implies, not_true_eq_false, not_false_eq_true, false_implies, true_and, and_true]
          exact K0
        · have c2 : ¬ costs ≤ nI 50 := fun z => cc ⟨Int32.not_lt.mp c1, z⟩
          simp (disch := omega) only [U_Di_refusalOf (cm _), SA, SB, SC1, SC2, SG, SV, AP, c1, c2, eqI, Nat.one_ne_zero, Nat.reduceEqDiff, true_implies, not_true_eq_false, not_false_eq_true, false_implies, true_and, and_true]
          exact K0
    · have AP := fun Q => xd_arePair (d + 1) one other h Q
      simp only [b01_f cp] at AP
      rw [if_neg (fun z => cp ⟨z.1, z.2.1, z.2.2.1⟩)] at K0
      simp (disch := omega) only [U_Di_refusalOf (cm _), SA, SB, SC1, SC2, SG, SV, AP, eqI, Nat.one_ne_zero, Nat.reduceEqDiff, true_implies, not_true_eq_false, not_false_eq_true, false_implies, true_and, and_true]
      exact K0
  · rw [if_pos rfl] at K0
    by_cases c : p 6 = nI 0
    · rw [if_pos c] at K0
      simp (disch := omega) only [U_Di_refusalOf (cm _), SA, SB, SC1, SC2, SG, SV, sh, e9, c, eqI, Nat.one_ne_zero, Nat.reduceEqDiff, true_implies, not_true_eq_false, not_false_eq_true, false_implies, true_and, and_true]
      exact K0
    · rw [if_neg c] at K0
      simp (disch := omega) only [U_Di_refusalOf (cm _), SA, SB, SC1, SC2, SG, SV, sh, e9, c, eqI, Nat.one_ne_zero, Nat.reduceEqDiff, true_implies, not_true_eq_false, not_false_eq_true, false_implies, true_and, and_true]
      exact K0
  · rw [if_neg (by omega), if_pos rfl] at K0
    by_cases c1 : isR one
    · rw [if_pos c1] at K0
      obtain ⟨r, hr, rfl⟩ := isR_n c1
      rw [nn_n (by omega)] at K0
      have AP := fun Q => xd_isRouter (d + 2) (nI r) h Q
      simp only [b01_t c1] at AP
      obtain ⟨-, -, -, b3⟩ := hV.2.2.2.2.2.2.2.2.2.2.1
      have b3 := b3 r hr
      by_cases c2 : gR p r 3 = nI 0
      · rw [if_pos c2] at K0
        simp (disch := omega) only [U_Di_refusalOf (cm _), SA, SB, SC1, SC2, SG, SV, sh, AP, e_bit, b3, c2, eqI, Nat.one_ne_zero, Nat.reduceEqDiff, true_implies, not_true_eq_false, not_false_eq_true, false_implies, true_and, and_true]
        exact K0
      · rw [if_neg c2] at K0
        simp (disch := omega) only [U_Di_refusalOf (cm _), SA, SB, SC1, SC2, SG, SV, sh, AP, e_bit, b3, c2, eqI, Nat.one_ne_zero, Nat.reduceEqDiff, true_implies, not_true_eq_false, not_false_eq_true, false_implies, true_and, and_true]
        exact K0
    · rw [if_neg c1] at K0
      have AP := fun Q => xd_isRouter (d + 2) one h Q
      simp only [b01_f c1] at AP
      simp (disch := omega) only [U_Di_refusalOf (cm _), SA, SB, SC1, SC2, SG, SV, AP, eqI, Nat.one_ne_zero, Nat.reduceEqDiff, true_implies, not_true_eq_false, not_false_eq_true, false_implies, true_and, and_true]
      exact K0
