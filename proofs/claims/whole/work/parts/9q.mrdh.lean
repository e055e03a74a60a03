/-! ===== readExpression ===== -/
set_option maxRecDepth 20000 in
theorem UC_Mo_readExpression_76 {G : GT} (hG : Gmono G) (R : RT) (lm : Nat × Nat) : WP cd_Mo_readExpression G R lm 0 = stp G R lm (2, 1, 0, 0, 0, 0, []) (WP cd_Mo_readExpression G R lm) ∧ WP cd_Mo_readExpression G R lm 1 = stp G R lm (7, 2, 0, 0, nI 0, 0, []) (WP cd_Mo_readExpression G R lm) ∧ WP cd_Mo_readExpression G R lm 2 = stp G R lm (59, 5, 8, 29, 0, 0, []) (WP cd_Mo_readExpression G R lm) ∧ WP cd_Mo_readExpression G R lm 5 = stp G R lm (2, 6, 0, 0, 0, 0, []) (WP cd_Mo_readExpression G R lm) ∧ WP cd_Mo_readExpression G R lm 6 = stp G R lm (7, 7, 0, 0, nI 0, 0, []) (WP cd_Mo_readExpression G R lm) ∧ WP cd_Mo_readExpression G R lm 7 = stp G R lm (59, 10, 8, 30, 0, 0, []) (WP cd_Mo_readExpression G R lm) ∧ WP cd_Mo_readExpression G R lm 10 = stp G R lm (1, 11, 1, 0, 0, 0, []) (WP cd_Mo_readExpression G R lm) ∧ WP cd_Mo_readExpression G R lm 11 = stp G R lm (47, 14, 18, 0, 0, 0, []) (WP cd_Mo_readExpression G R lm) ∧ WP cd_Mo_readExpression G R lm 14 = stp G R lm (7, 15, 0, 0, nI 0, 0, []) (WP cd_Mo_readExpression G R lm) ∧ WP cd_Mo_readExpression G R lm 15 = stp G R lm (40, 19, 0, 0, 0, 0, []) (WP cd_Mo_readExpression G R lm) ∧ WP cd_Mo_readExpression G R lm 18 = stp G R lm (7, 19, 0, 0, nI 1, 0, []) (WP cd_Mo_readExpression G R lm) ∧ WP cd_Mo_readExpression G R lm 19 = stp G R lm (4, 20, 2, 0, 0, 0, []) (WP cd_Mo_readExpression G R lm) ∧ WP cd_Mo_readExpression G R lm 21 = stp G R lm (56, 24, 8, 19, 0, 0, []) (WP cd_Mo_readExpression G R lm) ∧ WP cd_Mo_readExpression G R lm 24 = stp G R lm (48, 27, 76, 0, 0, 0, []) (WP cd_Mo_readExpression G R lm) ∧ WP cd_Mo_readExpression G R lm 27 = stp G R lm (1, 28, 2, 0, 0, 0, []) (WP cd_Mo_readExpression G R lm) ∧ WP cd_Mo_readExpression G R lm 28 = stp G R lm (7, 29, 0, 0, nI 4, 0, []) (WP cd_Mo_readExpression G R lm) ∧ WP cd_Mo_readExpression G R lm 29 = stp G R lm (41, 32, 76, 0, 0, 0, []) (WP cd_Mo_readExpression G R lm) ∧ WP cd_Mo_readExpression G R lm 32 = stp G R lm (1, 33, 2, 0, 0, 0, []) (WP cd_Mo_readExpression G R lm) ∧ WP cd_Mo_readExpression G R lm 33 = stp G R lm (48, 36, 43, 0, 0, 0, []) (WP cd_Mo_readExpression G R lm) ∧ WP cd_Mo_readExpression G R lm 36 = stp G R lm (2, 37, 0, 0, 0, 0, []) (WP cd_Mo_readExpression G R lm) ∧ WP cd_Mo_readExpression G R lm 37 = stp G R lm (86, 40, 183, 0, 0, 0, [8]) (WP cd_Mo_readExpression G R lm) ∧ WP cd_Mo_readExpression G R lm 40 = stp G R lm (40, 72, 0, 0, 0, 0, []) (WP cd_Mo_readExpression G R lm) ∧ WP cd_Mo_readExpression G R lm 43 = stp G R lm (1, 44, 2, 0, 0, 0, []) (WP cd_Mo_readExpression G R lm) ∧ WP cd_Mo_readExpression G R lm 44 = stp G R lm (7, 45, 0, 0, nI 1, 0, []) (WP cd_Mo_readExpression G R lm) ∧ WP cd_Mo_readExpression G R lm 45 = stp G R lm (42, 48, 55, 0, 0, 0, []) (WP cd_Mo_readExpression G R lm) ∧ WP cd_Mo_readExpression G R lm 48 = stp G R lm (2, 49, 0, 0, 0, 0, []) (WP cd_Mo_readExpression G R lm) ∧ WP cd_Mo_readExpression G R lm 49 = stp G R lm (86, 52, 182, 0, 0, 0, [8]) (WP cd_Mo_readExpression G R lm) ∧ WP cd_Mo_readExpression G R lm 52 = stp G R lm (40, 72, 0, 0, 0, 0, []) (WP cd_Mo_readExpression G R lm) ∧ WP cd_Mo_readExpression G R lm 55 = stp G R lm (1, 56, 2, 0, 0, 0, []) (WP cd_Mo_readExpression G R lm) ∧ WP cd_Mo_readExpression G R lm 56 = stp G R lm (7, 57, 0, 0, nI 3, 0, []) (WP cd_Mo_readExpression G R lm) ∧ WP cd_Mo_readExpression G R lm 57 = stp G R lm (42, 60, 68, 0, 0, 0, []) (WP cd_Mo_readExpression G R lm) ∧ WP cd_Mo_readExpression G R lm 60 = stp G R lm (2, 61, 0, 0, 0, 0, []) (WP cd_Mo_readExpression G R lm) ∧ WP cd_Mo_readExpression G R lm 61 = stp G R lm (1, 62, 1, 0, 0, 0, []) (WP cd_Mo_readExpression G R lm) ∧ WP cd_Mo_readExpression G R lm 62 = stp G R lm (86, 65, 184, 1, 0, 0, [8]) (WP cd_Mo_readExpression G R lm) ∧ WP cd_Mo_readExpression G R lm 65 = stp G R lm (40, 72, 0, 0, 0, 0, []) (WP cd_Mo_readExpression G R lm) ∧ WP cd_Mo_readExpression G R lm 68 = stp G R lm (2, 69, 0, 0, 0, 0, []) (WP cd_Mo_readExpression G R lm) ∧ WP cd_Mo_readExpression G R lm 69 = stp G R lm (86, 72, 185, 0, 0, 0, [8]) (WP cd_Mo_readExpression G R lm) ∧ WP cd_Mo_readExpression G R lm 72 = stp G R lm (4, 73, 2, 0, 0, 0, []) (WP cd_Mo_readExpression G R lm) ∧ WP cd_Mo_readExpression G R lm 73 = stp G R lm (40, 20, 0, 0, 0, 0, []) (WP cd_Mo_readExpression G R lm) ∧ WP cd_Mo_readExpression G R lm 77 = stp G R lm (7, 78, 0, 0, nI 1, 0, []) (WP cd_Mo_readExpression G R lm) ∧ WP cd_Mo_readExpression G R lm 78 = stp G R lm (86, 81, 175, 1, 0, 0, [8]) (WP cd_Mo_readExpression G R lm) ∧ WP cd_Mo_readExpression G R lm 81 = stp G R lm (84, 82, 0, 0, 0, 0, []) (WP cd_Mo_readExpression G R lm) := ⟨WP_eq hG rfl, WP_eq hG rfl, WP_eq hG rfl, WP_eq hG rfl, WP_eq hG rfl, WP_eq hG rfl, WP_eq hG rfl, WP_eq hG rfl, WP_eq hG rfl, WP_eq hG rfl, WP_eq hG rfl, WP_eq hG rfl, WP_eq hG rfl, WP_eq hG rfl, WP_eq hG rfl, WP_eq hG rfl, WP_eq hG rfl, WP_eq hG rfl, WP_eq hG rfl, WP_eq hG rfl, WP_eq hG rfl, WP_eq hG rfl, WP_eq hG rfl, WP_eq hG rfl, WP_eq hG rfl, WP_eq hG rfl, WP_eq hG rfl, WP_eq hG rfl, WP_eq hG rfl, WP_eq hG rfl, WP_eq hG rfl, WP_eq hG rfl, WP_eq hG rfl, WP_eq hG rfl, WP_eq hG rfl, WP_eq hG rfl, WP_eq hG rfl, WP_eq hG rfl, WP_eq hG rfl, WP_eq hG rfl, WP_eq hG rfl, WP_eq hG rfl⟩
def RxK (d : Nat) (test : Bool) (T : TP) (om : Nat) (lm : Nat × Nat) (Q : RT) (h : MH) : Except Nat MSx → Prop
  | .ok st => ∀ h', MRF h h' → MR h' T om st.1 st.2.2.1 st.2.2.2.1 st.2.2.2.2.1 st.2.2.2.2.2.1 st.2.2.2.2.2.2 → IvR om st → WP cd_Mo_readExpression (callD (d + 6)) Q lm 76 [] [some (.ref 273), some (.int (b2 test)), some (.int (nI 4))] h'
  | .error f => ∀ h' v, MRF h h' → MEr h' f → WP cd_Mo_readExpression (callD (d + 6)) Q lm 76 [] [some (.ref 273), some (.int (b2 test)), some (.int v)] h'
theorem RxK_t {d : Nat} {test : Bool} {T : TP} {om : Nat} {lm : Nat × Nat} {Q : RT} {h h1 : MH} {e : Except Nat MSx} (f : MRF h h1) (K : RxK d test T om lm Q h e) : RxK d test T om lm Q h1 e := by
  cases e with
  | ok st => exact fun h' m => K h' (f.trans m)
  | error x => exact fun h' v m => K h' v (f.trans m)
/-- at a fault the loop is left -/
theorem m_rx_er (d : Nat) (test : Bool) {T : TP} {om : Nat} (lm : Nat × Nat) (Q : RT) {h h' : MH} {f : Nat} (v : Int32) (m : MRF h h') (k8 : hkd h 273 = 8) (e : MEr h' f) (K : RxK d test T om lm Q h (.error f)) : WP cd_Mo_readExpression (callD (d + 6)) Q lm 20 [] [some (.ref 273), some (.int (b2 test)), some (.int v)] h' := by
  have k8' : hkd h' 273 = 8 := by obtain ⟨pl, cf, nc, s⟩ := e.2.2; exact s.1.rdr.1
  have b := e.1
  have Y := K h' v m e
  rw [U_Mo_readExpression_20 (cm _)]
  simp (disch := omega) only [UC_Mo_readExpression_76 (cm _), SA, SB, SC1, SC2, SG, SV, k8', b, eqI, Nat.one_ne_zero, true_implies, not_true_eq_false, not_false_eq_true, false_implies, true_and, and_true]
  exact Y
theorem m_l_rx (d : Nat) (test : Bool) {T : TP} {om : Nat} (hom : om = 0 ∨ om = 1) (lm : Nat × Nat) (Q : RT) (rr : Except Nat MSx) (hr : ∀ st, rr = .ok st → st.2.1 = 4) : ∀ (n : Nat) (st : MSx) (h : MH), mIt T om test n st = rr → MR h T om st.1 st.2.2.1 st.2.2.2.1 st.2.2.2.2.1 st.2.2.2.2.2.1 st.2.2.2.2.2.2 → IvR om st → RxK d test T om lm Q h rr → WP cd_Mo_readExpression (callD (d + 6)) Q lm 20 [] [some (.ref 273), some (.int (b2 test)), some (.int (nI st.2.1))] h
  | 0, st, h, hn, r, iv, K => by
    have e : .ok st = rr := hn
    subst e
    have t4 := hr st rfl
    have Y := K h (MRF.refl h) r iv
    have k8 := r.1.1.1
    have b := r.2.2.2.1
    rw [U_Mo_readExpression_20 (cm _), t4]
    simp (disch := omega) only [UC_Mo_readExpression_76 (cm _), SA, SB, SC1, SC2, SG, SV, k8, b, eqI, Nat.one_ne_zero, true_implies, not_true_eq_false, not_false_eq_true, false_implies, true_and, and_true]
    exact Y
  | n + 1, st, h, hn, r, iv, K => by
    obtain ⟨q, t, pl, cf, nc, k, op⟩ := st
    simp only at r ⊢
    have k8 := r.1.1.1
    have b := r.2.2.2.1
    have hq := r.1.2.2.1
    have hT := r.1.2.1.1
    have pv := r.2.1.2.2.2.2.2.1
    obtain ⟨i1, i2, i3, i4, i5, i6, i7, i8, i9⟩ := id iv
    simp only at i1 i2 i3 i6 i7
    have il := inn_le pl nc pv
    have ho : inn pl ≠ 0 → 1 ≤ op := fun z => by have := nb_inn pl z; omega
    unfold mIt at hn
    by_cases t4 : t = 4
    · subst t4
      have e : mStp T om test (q, 4, pl, cf, nc, k, op) = .ok (q, 4, pl, cf, nc, k, op) := rfl
      rw [e] at hn
      exact m_l_rx d test hom lm Q rr hr n (q, 4, pl, cf, nc, k, op) h hn r iv K
    have K1 : ∀ st2, mStp T om test (q, t, pl, cf, nc, k, op) = .ok st2 → IvR om st2 → ∀ h', MRF h h' → MR h' T om st2.1 st2.2.2.1 st2.2.2.2.1 st2.2.2.2.2.1 st2.2.2.2.2.2.1 st2.2.2.2.2.2.2 → WP cd_Mo_readExpression (callD (d + 6)) Q lm 20 [] [some (.ref 273), some (.int (b2 test)), some (.int (nI st2.2.1))] h' := fun st2 e iv2 h' m r2 => by
      rw [e] at hn
      exact m_l_rx d test hom lm Q rr hr n st2 h' hn r2 iv2 (RxK_t m K)
    have K2 : ∀ f, mStp T om test (q, t, pl, cf, nc, k, op) = .error f → ∀ h' v, MRF h h' → MEr h' f → WP cd_Mo_readExpression (callD (d + 6)) Q lm 20 [] [some (.ref 273), some (.int (b2 test)), some (.int v)] h' := fun f e h' v m er => by
      rw [e] at hn
      have e2 : .error f = rr := hn
      subst e2
      exact m_rx_er d test lm Q v m k8 er K
    have KT : ∀ e : Except Nat MSx, mStp T om test (q, t, pl, cf, nc, k, op) = e → (∀ st2, e = .ok st2 → IvR om st2) → StR h T om (fun w h' => ∃ v, w = some (.int v) ∧ WP cd_Mo_readExpression (callD (d + 6)) Q lm 20 [] [some (.ref 273), some (.int (b2 test)), some (.int v)] h') e := fun e he hi => by
      cases e with
      | ok st2 => exact fun h' m r2 => ⟨_, rfl, K1 st2 he (hi st2 rfl) h' m r2⟩
      | error f => exact fun h' v m er => ⟨_, rfl, K2 f he h' v m er⟩
    clear K1 K2 hn
    rw [U_Mo_readExpression_20 (cm _)]
    rcases (show t = 0 ∨ t = 1 ∨ t = 2 ∨ t = 3 by omega) with rfl | rfl | rfl | rfl
    · have ZZ := KT _ rfl (fun st2 e => iv_plain hom hq iv pv e)
      have Y := m_readPlain d q hom r i6 i3 i7 _ ZZ
      clear KT K ZZ
      simp (disch := omega) only [UC_Mo_readExpression_76 (cm _), SA, SB, SC1, SC2, SG, SV, k8, b, eqI, Nat.reduceEqDiff, Nat.one_ne_zero, true_implies, not_true_eq_false, not_false_eq_true, false_implies, true_and, and_true]
      refine cm _ _ _ _ _ _ ?_ Y
      rintro w h' ⟨v, rfl, y⟩
      simp (disch := omega) only [UC_Mo_readExpression_76 (cm _), SA, SB, SC1, SC2, SG, SV]
      exact y
    · have ZZ := KT _ rfl (fun st2 e => iv_part hom hq iv pv e)
      have Y := m_readPart (d + 1) q hom r i6 i3 (by omega) (by omega) _ ZZ
      clear KT K ZZ
      simp (disch := omega) only [UC_Mo_readExpression_76 (cm _), SA, SB, SC1, SC2, SG, SV, k8, b, eqI, Nat.reduceEqDiff, Nat.one_ne_zero, true_implies, not_true_eq_false, not_false_eq_true, false_implies, true_and, and_true]
      refine cm _ _ _ _ _ _ ?_ Y
      rintro w h' ⟨v, rfl, y⟩
      simp (disch := omega) only [UC_Mo_readExpression_76 (cm _), SA, SB, SC1, SC2, SG, SV]
      exact y
    · have ZZ := KT _ rfl (fun st2 e => iv_test hT hq iv pv e)
      have Y := m_behindTest d q r ho i3 il i7 _ ZZ
      clear KT K ZZ
      simp (disch := omega) only [UC_Mo_readExpression_76 (cm _), SA, SB, SC1, SC2, SG, SV, k8, b, eqI, Nat.reduceEqDiff, Nat.one_ne_zero, true_implies, not_true_eq_false, not_false_eq_true, false_implies, true_and, and_true]
      refine cm _ _ _ _ _ _ ?_ Y
      rintro w h' ⟨v, rfl, y⟩
      simp (disch := omega) only [UC_Mo_readExpression_76 (cm _), SA, SB, SC1, SC2, SG, SV]
      exact y
    · have ZZ := KT _ rfl (fun st2 e => iv_sum hT hq iv pv e)
      have Y := m_behindSum d q test r ho i3 il i7 _ ZZ
      clear KT K ZZ
      simp (disch := omega) only [UC_Mo_readExpression_76 (cm _), SA, SB, SC1, SC2, SG, SV, k8, b, eqI, Nat.reduceEqDiff, Nat.one_ne_zero, true_implies, not_true_eq_false, not_false_eq_true, false_implies, true_and, and_true]
      refine cm _ _ _ _ _ _ ?_ Y
      rintro w h' ⟨v, rfl, y⟩
      simp (disch := omega) only [UC_Mo_readExpression_76 (cm _), SA, SB, SC1, SC2, SG, SV]
      exact y
/-- the reader's state without its pile -/
def MRz (h : MH) (T : TP) (om q : Nat) (cf : CFt) (nc k : Nat) : Prop := MTk h T q ∧ (MoS h ∧ hfi h 273 23 = nI nc ∧ (∀ i, i < nc → hia h 284 i = nI (cf i).1 ∧ hia h 285 i = nI (cf i).2) ∧ nc ≤ 400) ∧ WDM h ∧ hfi h 273 19 = nI 0 ∧ hfi h 273 20 = nI om ∧ hfi h 273 26 = nI k ∧ hfi h 273 18 = -1
theorem MR.z {h : MH} {T : TP} {om q : Nat} {pl : PLt} {cf : CFt} {nc k op : Nat} (r : MR h T om q pl cf nc k op) : MRz h T om q cf nc k := ⟨r.1, ⟨r.2.1.1, r.2.1.2.1, r.2.1.2.2.2.1, by have := r.2.1.2.2.2.2.2.2; omega⟩, r.2.2.1, r.2.2.2.1, r.2.2.2.2.1, r.2.2.2.2.2.1, r.2.2.2.2.2.2.2⟩
theorem MR_p0 {h : MH} {T : TP} {om q : Nat} {cf : CFt} {nc k : Nat} (r : MRz h T om q cf nc k) : MR (sFI h 273 (up1 (up1 (hfi h 273) 29 (nI 0)) 30 (nI 0))) T om q [] cf nc k 0 ∧ MRF h (sFI h 273 (up1 (up1 (hfi h 273) 29 (nI 0)) 30 (nI 0))) := by
  have F : ∀ k, k ≠ 29 → k ≠ 30 → hfi (sFI h 273 (up1 (up1 (hfi h 273) 29 (nI 0)) 30 (nI 0))) 273 k = hfi h 273 k := fun k a b => by rw [hfi_s, up1_n _ _ b, up1_n _ _ a]
  obtain ⟨r1, ⟨s1, s2, s4, s7⟩, r3, r4, r5, r6, r8⟩ := r
  refine ⟨⟨MTk_x r1 (SHE.refl h) rfl (fun k h1 h2 => F k (by omega) (by omega)) rfl, ⟨s1, (F 23 (by omega) (by omega)).trans s2, ?_, s4, trivial, (fun x hx => by cases hx), by show nc + 0 ≤ 400; omega⟩, r3, (F 19 (by omega) (by omega)).trans r4, (F 20 (by omega) (by omega)).trans r5, (F 26 (by omega) (by omega)).trans r6, ?_, (F 18 (by omega) (by omega)).trans r8⟩, MRF_f _ (fun k a b c d e f g i j => by rw [up1_n _ _ j, up1_n _ _ i])⟩
  · rw [hfi_s, up1_n _ _ (by omega), up1_s]; rfl
  · rw [hfi_s, up1_s]
theorem MEr_s {h h' : MH} {f : Nat} (e : MEr h f) (m : MRS h h') {pl : PLt} {cf : CFt} {nc : Nat} (s : SR h' pl cf nc) : MEr h' f := ⟨(m.2.2.2 19 (by omega) (by omega)).trans e.1, (m.2.2.2 18 (by omega) (by omega)).trans e.2.1, pl, cf, nc, s⟩
/-- what reading an expression comes to -/
def MErz (h : MH) (f : Nat) : Prop := hfi h 273 19 = nI 1 ∧ hfi h 273 18 = nI f ∧ MoS h
theorem MEr.z {h : MH} {f : Nat} (e : MEr h f) : MErz h f := ⟨e.1, e.2.1, by obtain ⟨pl, cf, nc, s⟩ := e.2.2; exact s.1⟩
def RdK (h : MH) (T : TP) (om : Nat) (cf : CFt) (nc : Nat) (Q : RT) : PRs → Prop
  | .error f => ∀ h', MRF h h' → MErz h' f → Q none h'
  | .ok (v, q', k') => ∀ h' cf' nc', MRF h h' → MRz h' T om q' cf' nc' k' → (∀ i, i < nc → cf' i = cf i) → Seg (lM om cf') nc nc' 20 v → CV om cf' nc' → nc' < q' → k' ≤ 50 → Q none h'
theorem m_readExpression (d q : Nat) (test : Bool) {h : MH} {T : TP} {om : Nat} (hom : om = 0 ∨ om = 1) {cf : CFt} {nc k : Nat} (r : MRz h T om q cf nc k) (hk : k ≤ 50) (hn : nc < q) (hc : CV om cf nc) (Q : RT) (K : RdK h T om cf nc Q (pCh T om 40 (if test = true then 0 else 2) 0 q k)) : callD (d + 7) 186 [.ref 273, .int (b2 test)] h Q := by
  obtain ⟨R0, F0⟩ := MR_p0 r
  have k8 := r.1.1.1
  have hq := r.1.2.2.1
  have hT := r.1.2.1.1
  have I0 : IvR om (q, if test = true then 0 else 1, [], cf, nc, k, 0) := ⟨by show (if test = true then 0 else 1) ≤ 4; split <;> omega, Nat.le_refl _, by show 0 ≤ 8; omega, trivial, fun _ => by show (0 : Nat) ≠ 32; omega, hk, hn, hc, fun x hx => by cases hx⟩
  have SE := s_expr (T := T) (om := om) (test := test) hT (by omega) q k cf nc hq
  rw [E_Mo_readExpression]
  have key : ∀ lm, WP cd_Mo_readExpression (callD (d + 6)) Q lm 20 [] [some (.ref 273), some (.int (b2 test)), some (.int (nI (if test = true then 0 else 1)))] (sFI h 273 (up1 (up1 (hfi h 273) 29 (nI 0)) 30 (nI 0))) := fun lm => by
    revert K SE
    generalize pCh T om 40 (if test = true then 0 else 2) 0 q k = e
    intro K SE
    cases e with
    | error f =>
      obtain ⟨n, hn⟩ := SE
      refine m_l_rx d test hom lm Q _ (fun st z => by cases z) n _ _ hn R0 I0 (fun h' v m er => ?_)
      obtain ⟨pl1, cf1, nc1, s1⟩ := id er.2.2
      have kk := s1.1.rdr.1
      simp (disch := omega) only [U_Mo_readExpression (cm _), SA, SB, SC1, SC2, SG, SV, kk, true_and]
      refine m_settle (d + 4) 1 (by omega) s1 _ (fun h2 m2 s2 => ?_)
      simp (disch := omega) only [U_Mo_readExpression (cm _), SA, SB, SC1, SC2, SG, SV]
      exact K h2 ((F0.trans m).trans m2.F) (MEr_s er m2 s2).z
    | ok w =>
      obtain ⟨v, q', k'⟩ := w
      obtain ⟨pl', cf', nc', ⟨n, hn⟩, cf2, nc2, e1, e2, e3⟩ := SE
      refine m_l_rx d test hom lm Q _ (fun st z => by cases z; rfl) n _ _ hn R0 I0 (fun h' m r' iv => ?_)
      have kk := r'.1.1.1
      simp (disch := omega) only [U_Mo_readExpression (cm _), SA, SB, SC1, SC2, SG, SV, kk, true_and]
      refine m_settle (d + 4) 1 (by omega) r'.2.1 _ (fun h2 m2 s2 => ?_)
      simp (disch := omega) only [U_Mo_readExpression (cm _), SA, SB, SC1, SC2, SG, SV]
      obtain ⟨i1, i2, i3, i4, i5, i6, i7, i8, i9⟩ := iv
      have pv := r'.2.1.2.2.2.2.2.1
      have hq' := r'.1.2.2.1
      simp only at s2 i6 i7 i8 i9 pv hq'
      have S4 := (stl_iv (l := 1) (by omega) om pl' cf' nc' i4 i8 i9 pv (by omega)).2.2.2.1
      have N2 := (stl_inn (l := 1) (by omega) pl' cf' nc').2
      rw [e1] at s2 S4 N2
      simp only [List.length_nil] at s2 S4 N2
      exact K h2 cf2 nc2 ((F0.trans m).trans m2.F) (MR_x r' m2.X s2).z e2 e3 S4 (by omega) i6
  clear K SE
  cases test with
  | true =>
    simp only [if_true, b2_t] at key ⊢
    simp (disch := omega) only [UC_Mo_readExpression_76 (cm _), SA, SB, SC1, SC2, SG, SK, SV, k8, eqI, Nat.one_ne_zero, true_implies, not_true_eq_false, not_false_eq_true, false_implies, true_and, and_true]
    exact key _
  | false =>
    simp only [Bool.false_eq_true, if_false, b2_f] at key ⊢
    simp (disch := omega) only [UC_Mo_readExpression_76 (cm _), SA, SB, SC1, SC2, SG, SK, SV, k8, eqI, Nat.one_ne_zero, true_implies, not_true_eq_false, not_false_eq_true, false_implies, true_and, and_true]
    exact key _
