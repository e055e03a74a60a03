/-! ===== the reference's reader, on the heap ===== -/
def PLr (f g : Nat → Int32) : PLt → Prop
  | [] => True
  | (o, a) :: r => f r.length = nI o ∧ g r.length = nI a ∧ PLr f g r
theorem PLr_up {f g : Nat → Int32} {k : Nat} {x y : Int32} : ∀ {pl : PLt}, PLr f g pl → pl.length ≤ k → PLr (up1 f k x) (up1 g k y) pl
  | [], _, _ => trivial
  | (o, a) :: r, h, hk => by
    rw [List.length_cons] at hk
    exact ⟨by rw [up1_n _ _ (by omega)]; exact h.1, by rw [up1_n _ _ (by omega)]; exact h.2.1, PLr_up h.2.2 (by omega)⟩
def PV (pl : PLt) (nc : Nat) : Prop := ∀ x, x ∈ pl → 20 ≤ x.1 ∧ x.1 ≤ 32 ∧ x.2 ≤ 400 ∧ (x.1 = 29 ∨ x.1 = 30 → x.2 < nc)
/-- pile and code -/
def SR (h : MH) (pl : PLt) (cf : CFt) (nc : Nat) : Prop := MoS h ∧ hfi h 273 23 = nI nc ∧ hfi h 273 29 = nI pl.length ∧ (∀ i, i < nc → hia h 284 i = nI (cf i).1 ∧ hia h 285 i = nI (cf i).2) ∧ PLr (hia h 286) (hia h 287) pl ∧ PV pl nc ∧ nc + pl.length ≤ 400
def MRF (h h' : MH) : Prop := (hsz h' = hsz h ∧ hcc h' = hcc h ∧ hcu h' = hcu h ∧ SHE h h' ∧ hja h' = hja h) ∧ (∀ a, a ≠ 273 → hfi h' a = hfi h a ∧ hfj h' a = hfj h a) ∧ (∀ a, a < 284 ∨ 287 < a → hia h' a = hia h a) ∧ (∀ k, k ≠ 14 → k ≠ 15 → k ≠ 16 → k ≠ 18 → k ≠ 19 → k ≠ 23 → k ≠ 26 → k ≠ 29 → k ≠ 30 → hfi h' 273 k = hfi h 273 k) ∧ (∀ k, k ≠ 17 → hfj h' 273 k = hfj h 273 k)
theorem MRF.refl (h : MH) : MRF h h := ⟨⟨rfl, rfl, rfl, SHE.refl h, rfl⟩, fun _ _ => ⟨rfl, rfl⟩, fun _ _ => rfl, fun _ _ _ _ _ _ _ _ _ _ => rfl, fun _ _ => rfl⟩
theorem MRF.trans {a b c : MH} (x : MRF a b) (y : MRF b c) : MRF a c := by
  obtain ⟨⟨x1, x2, x3, x4, x5⟩, x6, x7, x8, x9⟩ := x
  obtain ⟨⟨y1, y2, y3, y4, y5⟩, y6, y7, y8, y9⟩ := y
  exact ⟨⟨y1.trans x1, y2.trans x2, y3.trans x3, x4.trans y4, y5.trans x5⟩, fun p q => ⟨(y6 p q).1.trans (x6 p q).1, (y6 p q).2.trans (x6 p q).2⟩, fun p q => (y7 p q).trans (x7 p q), fun k a b c d e f g h i => (y8 k a b c d e f g h i).trans (x8 k a b c d e f g h i), fun k a => (y9 k a).trans (x9 k a)⟩
/-- only code, its length and the pile's height were changed -/
def MRS (h h' : MH) : Prop := (hsz h' = hsz h ∧ hcc h' = hcc h ∧ hcu h' = hcu h ∧ SHE h h' ∧ hja h' = hja h ∧ hfj h' = hfj h) ∧ (∀ a, a ≠ 273 → hfi h' a = hfi h a) ∧ (∀ a, a ≠ 284 → a ≠ 285 → hia h' a = hia h a) ∧ (∀ k, k ≠ 23 → k ≠ 29 → hfi h' 273 k = hfi h 273 k)
theorem MRS.refl (h : MH) : MRS h h := ⟨⟨rfl, rfl, rfl, SHE.refl h, rfl, rfl⟩, fun _ _ => rfl, fun _ _ _ => rfl, fun _ _ _ => rfl⟩
theorem MRS.trans {a b c : MH} (x : MRS a b) (y : MRS b c) : MRS a c := by
  obtain ⟨⟨x1, x2, x3, x4, x5, x0⟩, x6, x7, x8⟩ := x
  obtain ⟨⟨y1, y2, y3, y4, y5, y0⟩, y6, y7, y8⟩ := y
  exact ⟨⟨y1.trans x1, y2.trans x2, y3.trans x3, x4.trans y4, y5.trans x5, y0.trans x0⟩, fun p q => (y6 p q).trans (x6 p q), fun p q r => (y7 p q r).trans (x7 p q r), fun k a b => (y8 k a b).trans (x8 k a b)⟩
theorem MRS.F {a b : MH} (x : MRS a b) : MRF a b := by
  obtain ⟨⟨x1, x2, x3, x4, x5, x0⟩, x6, x7, x8⟩ := x
  exact ⟨⟨x1, x2, x3, x4, x5⟩, fun p q => ⟨x6 p q, by rw [x0]⟩, fun p q => x7 p (by omega) (by omega), fun k _ _ _ _ _ d _ f _ => x8 k d f, fun k _ => by rw [x0]⟩
theorem SHE.M {h h' : MH} (e : SHE h h') (s : MoS h) : MoS h' := by
  obtain ⟨e1, e2, e3, -⟩ := e
  unfold MoS AF at *
  rw [e1, e2, e3]
  exact s
theorem MoS.rdr {h : MH} (hM : MoS h) : hkd h 273 = 8 ∧ hfr h 273 24 = some 284 ∧ hkd h 284 = 20 ∧ hln h 284 = 400 ∧ hfr h 273 25 = some 285 ∧ hkd h 285 = 20 ∧ hln h 285 = 400 ∧ hfr h 273 27 = some 286 ∧ hkd h 286 = 20 ∧ hln h 286 = 400 ∧ hfr h 273 28 = some 287 ∧ hkd h 287 = 20 ∧ hln h 287 = 400 := by
  obtain ⟨a, -, -, -, -, -, -, -, -, -, -, ⟨c1, c2, c3⟩, ⟨d1, d2, d3⟩, ⟨e1, e2, e3⟩, ⟨f1, f2, f3⟩, -⟩ := hM
  exact ⟨a, c1, c2, c3, d1, d2, d3, e1, e2, e3, f1, f2, f3⟩
theorem m_binds (d o : Nat) (h1 : 20 ≤ o) (h2 : o ≤ 32) (h : MH) (Q : RT) : callD (d + 1) 174 [.int (nI o)] h Q = Q (some (.int (nI (bnd o)))) h := by
  rw [E_Mo_binds]
  rcases (show o = 20 ∨ o = 21 ∨ o = 22 ∨ o = 23 ∨ o = 24 ∨ o = 25 ∨ o = 26 ∨ o = 27 ∨ o = 28 ∨ o = 29 ∨ o = 30 ∨ o = 31 ∨ o = 32 by omega) with rfl | rfl | rfl | rfl | rfl | rfl | rfl | rfl | rfl | rfl | rfl | rfl | rfl <;> (simp (disch := omega) only [U_Mo_binds (cm _), SA, SB, SG, SV, ltI, eqI, Nat.reduceEqDiff, true_implies, not_true_eq_false, not_false_eq_true, false_implies, true_and, and_true]; simp [bnd])
def meH (h : MH) (nc : Nat) (x y : Int32) : MH := sFI (sIA (sIA h 284 (up1 (hia h 284) nc x)) 285 (up1 (hia h 285) nc y)) 273 (up1 (hfi h 273) 23 (nI (nc + 1)))
theorem m_emit (d nc : Nat) (x y : Int32) (hn : nc < 400) {h : MH} (hM : MoS h) (h23 : hfi h 273 23 = nI nc) (Q : RT) : callD (d + 1) 172 [.ref 273, .int x, .int y] h Q = Q none (meH h nc x y) := by
  obtain ⟨m1, m2, m3, m4, m5, m6, m7, -⟩ := hM.rdr
  rw [E_Mo_emit]
  unfold meH
  simp (disch := omega) only [U_Mo_emit (cm _), SA, SB, SG, SV, SM, m1, m2, m3, m4, m5, m6, m7, h23, nI_add, nI_clamp, in_eq, up1_n, Nat.reduceLeDiff, true_and, and_true]
def mpH (h : MH) (n : Nat) (x y : Int32) : MH := sFI (sIA (sIA h 286 (up1 (hia h 286) n x)) 287 (up1 (hia h 287) n y)) 273 (up1 (hfi h 273) 29 (nI (n + 1)))
theorem m_push (d n : Nat) (x y : Int32) (hn : n < 400) {h : MH} (hM : MoS h) (h29 : hfi h 273 29 = nI n) (Q : RT) : callD (d + 1) 173 [.ref 273, .int x, .int y] h Q = Q none (mpH h n x y) := by
  obtain ⟨m1, -, -, -, -, -, -, m2, m3, m4, m5, m6, m7⟩ := hM.rdr
  rw [E_Mo_push]
  unfold mpH
  simp (disch := omega) only [U_Mo_push (cm _), SA, SB, SG, SV, SM, m1, m2, m3, m4, m5, m6, m7, h29, nI_add, nI_clamp, in_eq, up1_n, Nat.reduceLeDiff, true_and, and_true]
theorem SR_emit {h : MH} {pl : PLt} {cf : CFt} {nc : Nat} (s : SR h pl cf nc) (x : Nat × Nat) (hn : nc + pl.length < 400) : SR (meH h nc (nI x.1) (nI x.2)) pl (up1 cf nc x) (nc + 1) ∧ MRS h (meH h nc (nI x.1) (nI x.2)) := by
  obtain ⟨s1, s2, s3, s4, s5, s6, s7⟩ := s
  have ef : hfi (meH h nc (nI x.1) (nI x.2)) 273 = up1 (hfi h 273) 23 (nI (nc + 1)) := by unfold meH; exact hfi_s _ _ _
  have e4 : hia (meH h nc (nI x.1) (nI x.2)) 284 = up1 (hia h 284) nc (nI x.1) := by
    show hia (sIA (sIA h 284 (up1 (hia h 284) nc (nI x.1))) 285 (up1 (hia h 285) nc (nI x.2))) 284 = _
    rw [hia_n _ _ (by omega), hia_s]
  have e5 : hia (meH h nc (nI x.1) (nI x.2)) 285 = up1 (hia h 285) nc (nI x.2) := by
    show hia (sIA (sIA h 284 (up1 (hia h 284) nc (nI x.1))) 285 (up1 (hia h 285) nc (nI x.2))) 285 = _
    rw [hia_s]
  have eo : ∀ a, a ≠ 284 → a ≠ 285 → hia (meH h nc (nI x.1) (nI x.2)) a = hia h a := fun a h1 h2 => by
    show hia (sIA (sIA h 284 (up1 (hia h 284) nc (nI x.1))) 285 (up1 (hia h 285) nc (nI x.2))) a = _
    rw [hia_n _ _ h2, hia_n _ _ h1]
  refine ⟨⟨s1, by rw [ef, up1_s], by rw [ef, up1_n _ _ (by omega)]; exact s3, fun i hi => ?_, by rw [eo _ (by omega) (by omega), eo _ (by omega) (by omega)]; exact s5, fun y hy => ?_, by omega⟩, ⟨rfl, rfl, rfl, SHE.refl h, rfl, rfl⟩, fun a ha => by unfold meH; exact hfi_nn _ _ ha, eo, fun k h1 h2 => by rw [ef, up1_n _ _ h1]⟩
  · rw [e4, e5]
    by_cases c : i = nc
    · subst c; rw [up1_s, up1_s, up1_s]; exact ⟨rfl, rfl⟩
    · rw [up1_n _ _ c, up1_n _ _ c, up1_n _ _ c]; exact s4 i (by omega)
  · obtain ⟨p1, p2, p3, p4⟩ := s6 y hy
    exact ⟨p1, p2, p3, fun z => by have := p4 z; omega⟩
/-- settling -/
theorem m_l_settle (d l : Nat) (hl : l ≤ 6) (Q : RT) (lm : Nat × Nat) : ∀ (pl : PLt) (cf : CFt) (nc : Nat) (h : MH), SR h pl cf nc → (∀ h', MRS h h' → SR h' (stl l pl cf nc).1 (stl l pl cf nc).2.1 (stl l pl cf nc).2.2 → Q none h') → WP cd_Mo_settle (callD (d + 1)) Q lm 0 [] [some (.ref 273), some (.int (nI l))] h
  | [], cf, nc, h, s, kk => by
    have K := kk h (MRS.refl h) s
    obtain ⟨s1, s2, s3, -⟩ := s
    rw [List.length_nil] at s3
    rw [U_Mo_settle_0 (cm _)]
    simp (disch := omega) only [U_Mo_settle (cm _), SA, SB, SG, SV, s1.1, s3, leI, Nat.le_refl, true_implies, not_true_eq_false, not_false_eq_true, false_implies, true_and, and_true]
    exact K
  | (o, a) :: r, cf, nc, h, s, kk => by
    have s' := s
    obtain ⟨s1, s2, s3, s4, ⟨p1, p2, p3⟩, s6, s7⟩ := s
    rw [List.length_cons] at s3 s7
    obtain ⟨o1, o2, a1, a2⟩ := s6 (o, a) (List.mem_cons_self ..)
    have o1' : 20 ≤ o := o1
    have o2' : o ≤ 32 := o2
    have a1' : a ≤ 400 := a1
    have a2' : o = 29 ∨ o = 30 → a < nc := a2
    have rPV : PV r nc := fun y hy => s6 y (List.mem_cons_of_mem _ hy)
    obtain ⟨m1, n1, n2, n3, n4, n5, n6, m2, m3, m4, m5, m6, m7⟩ := s1.rdr
    have B := fun h Q => m_binds d o o1' o2' h Q
    have b6 : bnd o ≤ 6 := by unfold bnd; split; omega; split; omega; split; omega; split; omega; split; omega; split <;> omega
    rw [U_Mo_settle_0 (cm _)]
    by_cases c : l ≤ bnd o
    · have pop : SR (sFI h 273 (up1 (hfi h 273) 29 (nI r.length))) r cf nc ∧ MRS h (sFI h 273 (up1 (hfi h 273) 29 (nI r.length))) := by
        have ef : hfi (sFI h 273 (up1 (hfi h 273) 29 (nI r.length))) 273 = up1 (hfi h 273) 29 (nI r.length) := hfi_s _ _ _
        exact ⟨⟨s1, by rw [ef, up1_n _ _ (by omega)]; exact s2, by rw [ef, up1_s], s4, p3, rPV, by omega⟩, ⟨rfl, rfl, rfl, SHE.refl h, rfl, rfl⟩, fun a ha => hfi_nn _ _ ha, fun _ _ _ => rfl, fun k _ h2 => by rw [ef, up1_n _ _ h2]⟩
      obtain ⟨P1, P2⟩ := pop
      by_cases c2 : o = 29 ∨ o = 30
      · have e : stl l ((o, a) :: r) cf nc = stl l r (up1 cf a ((cf a).1, nc)) nc := by show (if l ≤ bnd o then _ else _) = _; rw [if_pos c, if_pos c2]
        rw [e] at kk
        have S2 : SR (sFI (sIA h 285 (up1 (hia h 285) a (nI nc))) 273 (up1 (hfi h 273) 29 (nI r.length))) r (up1 cf a ((cf a).1, nc)) nc ∧ MRS h (sFI (sIA h 285 (up1 (hia h 285) a (nI nc))) 273 (up1 (hfi h 273) 29 (nI r.length))) := by
          have ef : hfi (sFI (sIA h 285 (up1 (hia h 285) a (nI nc))) 273 (up1 (hfi h 273) 29 (nI r.length))) 273 = up1 (hfi h 273) 29 (nI r.length) := hfi_s _ _ _
          have eo : ∀ b, b ≠ 285 → hia (sFI (sIA h 285 (up1 (hia h 285) a (nI nc))) 273 (up1 (hfi h 273) 29 (nI r.length))) b = hia h b := fun b hb => by
            show hia (sIA h 285 (up1 (hia h 285) a (nI nc))) b = _
            rw [hia_n _ _ hb]
          have e5 : hia (sFI (sIA h 285 (up1 (hia h 285) a (nI nc))) 273 (up1 (hfi h 273) 29 (nI r.length))) 285 = up1 (hia h 285) a (nI nc) := by
            show hia (sIA h 285 (up1 (hia h 285) a (nI nc))) 285 = _
            rw [hia_s]
          refine ⟨⟨s1, by rw [ef, up1_n _ _ (by omega)]; exact s2, by rw [ef, up1_s], fun i hi => ?_, by rw [eo _ (by omega), eo _ (by omega)]; exact p3, rPV, by omega⟩, ⟨rfl, rfl, rfl, SHE.refl h, rfl, rfl⟩, fun b hb => hfi_nn _ _ hb, fun b _ h2 => eo b h2, fun k _ h2 => by rw [ef, up1_n _ _ h2]⟩
          rw [eo 284 (by omega), e5]
          by_cases ci : i = a
          · subst ci; rw [up1_s, up1_s]; exact ⟨(s4 i hi).1, rfl⟩
          · rw [up1_n _ _ ci, up1_n _ _ ci]; exact s4 i hi
        have I := m_l_settle d l hl Q lm r _ nc _ S2.1 (fun h' m s => kk h' (S2.2.trans m) s)
        have an := a2' c2
        have nb : ¬ bnd o < l := by omega
        rcases c2 with rfl | rfl <;> simp (disch := omega) only [U_Mo_settle (cm _), SA, SB, SC1, SC2, SG, SV, SM, m1, m2, m3, m4, m5, m6, m7, n4, n5, n6, s2, s3, p1, p2, B, leI, ltI, show ¬ r.length + 1 ≤ 0 by omega, nb, pk_sub, Nat.add_sub_cancel, eqI, Nat.reduceEqDiff, nI_clamp, in_eq, up1_s, up1_n, Nat.reduceLeDiff, true_implies, not_true_eq_false, not_false_eq_true, false_implies, true_and, and_true] <;> exact I
      · have e : stl l ((o, a) :: r) cf nc = stl l r (up1 cf nc (o, 0)) (nc + 1) := stl_pop c c2
        rw [e] at kk
        obtain ⟨E1, E2⟩ := SR_emit P1 (o, 0) (by omega)
        have nb : ¬ bnd o < l := by omega
        obtain ⟨c2a, c2b⟩ := not_or.mp c2
        have I := m_l_settle d l hl Q lm r _ (nc + 1) _ E1 (fun h' m s => kk h' ((P2.trans E2).trans m) s)
        have EM := fun Q => m_emit d nc (nI o) (nI 0) (by omega) (h := sFI h 273 (up1 (hfi h 273) 29 (nI r.length))) s1 (by rw [hfi_s, up1_n _ _ (by omega)]; exact s2) Q
        simp (disch := omega) only [U_Mo_settle (cm _), SA, SB, SC1, SC2, SG, SV, m1, m2, m3, m4, s3, p1, B, EM, leI, ltI, show ¬ r.length + 1 ≤ 0 by omega, nb, c2a, c2b, pk_sub, Nat.add_sub_cancel, eqI, nI_clamp, in_eq, up1_s, up1_n, Nat.reduceLeDiff, true_implies, not_true_eq_false, not_false_eq_true, false_implies, true_and, and_true]
        exact I
    · have e : stl l ((o, a) :: r) cf nc = ((o, a) :: r, cf, nc) := by show (if l ≤ bnd o then _ else _) = _; rw [if_neg c]
      rw [e] at kk
      have K := kk h (MRS.refl h) s'
      simp (disch := omega) only [U_Mo_settle (cm _), SA, SB, SC1, SC2, SG, SV, m1, m2, m3, m4, s3, p1, B, leI, ltI, show ¬ r.length + 1 ≤ 0 by omega, show bnd o < l by omega, pk_sub, Nat.add_sub_cancel, nI_clamp, in_eq, true_implies, not_true_eq_false, not_false_eq_true, false_implies, true_and, and_true]
      exact K
theorem m_settle (d l : Nat) (hl : l ≤ 6) {pl : PLt} {cf : CFt} {nc : Nat} {h : MH} (s : SR h pl cf nc) (Q : RT) (kk : ∀ h', MRS h h' → SR h' (stl l pl cf nc).1 (stl l pl cf nc).2.1 (stl l pl cf nc).2.2 → Q none h') : callD (d + 2) 175 [.ref 273, .int (nI l)] h Q := by
  rw [E_Mo_settle]
  exact m_l_settle d l hl Q _ pl cf nc h s kk
