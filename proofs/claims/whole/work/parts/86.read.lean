/-! ===== the program's reader ===== -/
def avH (h : MH) (T : TP) (q : Nat) : MH := sFI h 214 (tkF (hfi h 214) T (tBe T q))
def flH (h : MH) : MH := sFI h 213 (up1 (hfi h 213) 6 (hfi h 214 2))
theorem tkF_1 (g : Nat → Int32) (T : TP) (q : Nat) : tkF g T q 1 = g 1 := by unfold tkF; simp (disch := omega) only [up1_n]
theorem hfi_nn (h : MH) {a b : Nat} (f : Nat → Int32) (e : ¬ b = a) : hfi (sFI h a f) b = hfi h b := up1_n (hfi h) f e
theorem av_f {h : MH} {T : TP} {q a : Nat} (e : ¬ a = 214) : hfi (avH h T q) a = hfi h a := by unfold avH; exact hfi_nn _ _ e
theorem fl_f {h : MH} {a : Nat} (e : ¬ a = 213) : hfi (flH h) a = hfi h a := by unfold flH; exact hfi_nn _ _ e
theorem fl_g {h : MH} : hfi (flH h) 213 = up1 (hfi h 213) 6 (hfi h 214 2) := by unfold flH; exact hfi_s _ _ _
theorem em_f {h : MH} {cl o a b : Nat} (e : ¬ b = 213) : hfi (emF h cl o a) b = hfi h b := by unfold emF; exact hfi_nn _ _ e
theorem em_g {h : MH} {cl o a : Nat} : hfi (emF h cl o a) 213 = up1 (hfi h 213) 3 (nI (cl + 1)) := by unfold emF; exact hfi_s _ _ _
theorem em_c {h : MH} {cl o a : Nat} : hia (emF h cl o a) 216 = up1 (hia h 216) cl (nI (o * 4096 + a)) := up1_s (hia h) 216 _
theorem RF_av (h : MH) (T : TP) (q : Nat) : RF h (avH h T q) := ⟨⟨rfl, rfl, rfl, SHE.refl h, rfl, rfl⟩, fun a _ h2 => av_f h2, by rw [av_f (by omega)], by unfold avH; rw [hfi_s, tkF_1], fun _ _ => rfl⟩
theorem RF_fl (h : MH) : RF h (flH h) := ⟨⟨rfl, rfl, rfl, SHE.refl h, rfl, rfl⟩, fun a h1 _ => fl_f h1, by rw [fl_g, up1_n _ _ (by omega)], by rw [fl_f (by omega)], fun _ _ => rfl⟩
theorem RF_em (h : MH) (cl o a : Nat) : RF h (emF h cl o a) := ⟨⟨rfl, rfl, rfl, SHE.refl h, rfl, rfl⟩, fun a h1 _ => em_f h1, by rw [em_g, up1_n _ _ (by omega)], by rw [em_f (by omega)], fun a h1 => up1_n (hia h) _ h1⟩
theorem XTk_e {h h' : MH} {T : TP} {q : Nat} (e : SHE h h') (h1 : hia h' 215 = hia h 215) (h2 : hfi h' 214 = hfi h 214) (t : XTk h T q) : XTk h' T q := by
  obtain ⟨e1, e2, e3, -⟩ := e
  unfold XTk TaS at *
  rw [e1, e2, e3, h1, h2]
  exact t
theorem XSr_e {h h' : MH} (e : SHE h h') (s : XSr h) : XSr h' := by
  obtain ⟨e1, e2, e3, -⟩ := e
  unfold XSr at *
  rw [e1, e2, e3]
  exact s
theorem RS_av {h : MH} {T : TP} {om q k cl : Nat} (r : RS h T om q k cl) : RS (avH h T q) T om (tBe T q) k cl := by
  obtain ⟨s, t, h3, h4, h5⟩ := r
  have e : hfi (avH h T q) 213 = hfi h 213 := av_f (by omega)
  exact ⟨s, (x_adv 0 q t (fun _ _ => True)).2, by rw [e]; exact h3, by rw [e]; exact h4, by rw [e]; exact h5⟩
theorem r_adv (d : Nat) {h : MH} {T : TP} {om q k cl : Nat} (r : RS h T om q k cl) (Q : RT) : callD (d + 2) 67 [.ref 214] h Q = Q none (avH h T q) := (x_adv d q r.2.1 Q).1
theorem RS_em {h : MH} {T : TP} {om q k cl o a : Nat} (r : RS h T om q k cl) : RS (emF h cl o a) T om q k (cl + 1) := by
  obtain ⟨s, t, h3, h4, h5⟩ := r
  have e := em_g (h := h) (cl := cl) (o := o) (a := a)
  refine ⟨s, XTk_e (SHE.refl h) ((RF_em h cl o a).2.2.2.2 215 (by omega)) (em_f (by omega)) t, by rw [e, up1_s], by rw [e, up1_n _ _ (by omega)]; exact h4, by rw [e, up1_n _ _ (by omega)]; exact h5⟩
theorem em_6 {h : MH} {cl o a : Nat} : hfi (emF h cl o a) 213 6 = hfi h 213 6 := by rw [em_g, up1_n _ _ (by omega)]
theorem av_6 {h : MH} {T : TP} {q : Nat} : hfi (avH h T q) 213 = hfi h 213 := av_f (by omega)
theorem fl_6 {h : MH} {T : TP} {om q k cl : Nat} (r : RS h T om q k cl) : hfi (flH h) 213 6 = nI (tAt T q) := by rw [fl_g, up1_s]; exact r.2.1.2.2.2.2.1
theorem r_fails (d : Nat) {h : MH} {T : TP} {om q k cl : Nat} (r : RS h T om q k cl) (Q : RT) : callD (d + 1) 47 [.ref 213] h Q = Q (some (.int (nI 0))) (flH h) := by
  have s := r.1
  unfold XSr at s
  rw [E_Re_fails]
  unfold flH
  simp (disch := omega) only [U_Re_fails (cm _), SA, SB, SG, SV, s, true_or, true_implies, true_and]
theorem r_takesSign (d x : Nat) (hx : x < 256) {h : MH} {T : TP} {om q k cl : Nat} (r : RS h T om q k cl) (Q : RT) : callD (d + 3) 48 [.ref 213, .int (nI x)] h Q = if bG T q x = true then Q (some (.int (nI 1))) (avH h T q) else Q (some (.int (nI 0))) (flH h) := by
  have s := r.1
  unfold XSr at s
  rw [E_Re_takesSign]
  have G := x_hasSign (d + 1) q x hx r.2.1
  by_cases c : bG T q x = true
  · rw [if_pos c]
    simp only [c, b2_t] at G
    simp (disch := omega) only [U_Re_takesSign (cm _), SA, SB, SC1, SC2, SG, SV, s, G, r_adv d r, eqI, Nat.one_ne_zero, true_or, or_true, true_implies, not_true_eq_false, not_false_eq_true, false_implies, true_and, and_true]
  · rw [if_neg c]
    simp only [Bool.eq_false_iff.mpr c, b2_f] at G
    simp (disch := omega) only [U_Re_takesSign (cm _), SA, SB, SC1, SC2, SG, SV, s, G, r_fails (d + 1) r, eqI, Nat.one_ne_zero, true_or, or_true, true_implies, not_true_eq_false, not_false_eq_true, false_implies, true_and, and_true]
theorem r_takesWord (d x : Nat) (hx : x < 22) {h : MH} {T : TP} {om q k cl : Nat} (r : RS h T om q k cl) (Q : RT) : callD (d + 3) 49 [.ref 213, .ref (x + 2)] h Q = if bW T q x = true then Q (some (.int (nI 1))) (avH h T q) else Q (some (.int (nI 0))) (flH h) := by
  have s := r.1
  unfold XSr at s
  rw [E_Re_takesWord]
  have G := x_hasWord (d + 1) q x hx r.2.1
  by_cases c : bW T q x = true
  · rw [if_pos c]
    simp only [c, b2_t] at G
    simp (disch := omega) only [U_Re_takesWord (cm _), SA, SB, SC1, SC2, SG, SV, s, G, r_adv d r, eqI, Nat.one_ne_zero, true_or, or_true, true_implies, not_true_eq_false, not_false_eq_true, false_implies, true_and, and_true]
  · rw [if_neg c]
    simp only [Bool.eq_false_iff.mpr c, b2_f] at G
    simp (disch := omega) only [U_Re_takesWord (cm _), SA, SB, SC1, SC2, SG, SV, s, G, r_fails (d + 1) r, eqI, Nat.one_ne_zero, true_or, or_true, true_implies, not_true_eq_false, not_false_eq_true, false_implies, true_and, and_true]
/-- a fault was found -/
def ER (h h' : MH) (f : Nat) : Prop := RF h h' ∧ hfi h' 213 6 = nI f ∧ ∃ c, c ≤ 448 ∧ hfi h' 213 3 = nI c
theorem ER_fl {h : MH} {T : TP} {om q k cl : Nat} (r : RS h T om q k cl) (hc : cl ≤ 448) : ER h (flH h) (tAt T q) := ⟨RF_fl h, fl_6 r, cl, hc, by rw [fl_g, up1_n _ _ (by omega)]; exact r.2.2.1⟩
theorem ER.pre {a b c : MH} {f : Nat} (x : RF a b) (y : ER b c f) : ER a c f := ⟨x.trans y.1, y.2⟩
def dD (lev op : Nat) : Nat := (if lev ≤ 1 then 4 else if lev = 2 then 3 else 2) + 2 * (8 - op)
theorem dD_0 (op : Nat) : dD 0 op = 4 + 2 * (8 - op) := rfl
theorem dD_1 (op : Nat) : dD 1 op = 4 + 2 * (8 - op) := rfl
theorem dD_2 (op : Nat) : dD 2 op = 3 + 2 * (8 - op) := rfl
theorem dD_3 (op : Nat) : dD 3 op = 2 + 2 * (8 - op) := rfl
theorem r_emitsE (d o a f : Nat) (ho : o < 14) (ha : a < 1100) {h h' : MH} (s : XSr h) (e : ER h h' f) (Q : RT) (kk : ∀ h'', ER h h'' f → Q none h'') : callD (d + 1) 50 [.ref 213, .int (nI o), .int (nI a)] h' Q := by
  obtain ⟨F, e6, c, hc, h3⟩ := e
  have s' := XSr_e F.1.2.2.2.1 s
  unfold XSr at s'
  rw [E_Re_emits]
  by_cases c4 : 448 ≤ c
  · simp (disch := omega) only [U_Re_emits (cm _), SA, SB, SG, SV, SM, s', h3, leI, c4, Nat.reduceLeDiff, Nat.le_refl, true_implies, not_true_eq_false, not_false_eq_true, false_implies, true_and, and_true]
    exact kk h' ⟨F, e6, c, hc, h3⟩
  · have K := kk (emF h' c o a) ⟨F.trans (RF_em h' c o a), by rw [em_6]; exact e6, c + 1, by omega, by rw [em_g, up1_s]⟩
    unfold emF at K
    simp (disch := omega) only [U_Re_emits (cm _), SA, SB, SG, SV, SM, s', h3, leI, c4, sl_e, or_e, nI_add, nI_clamp, in_eq, Nat.reduceLeDiff, true_implies, not_true_eq_false, not_false_eq_true, false_implies, true_and, and_true]
    exact K
/-- what reading a part of the text must come to -/
def XOK (h : MH) (T : TP) (om q cl D : Nat) (r : PRs) (Q : RT) : Prop := match r with
  | .error f => ∀ h', ER h h' f → Q (some (.int (nI 0))) h'
  | .ok (v, q', k') => ∀ h' cl', RF h h' → RS h' T om q' k' cl' → hfi h' 213 6 = hfi h 213 6 → cl < cl' → cl' + q ≤ cl + q' → (∀ i, i < cl → hia h' 216 i = hia h 216 i) → XSg (hia h' 216) om cl cl' D v → Q (some (.int (nI 1))) h'
/-- a reader of chains does what it must -/
def HPx (T : TP) (om n : Nat) : Prop := ∀ (d lev op q k cl : Nat) (h : MH) (Q : RT), lev < 4 → op ≤ 8 → 4 * (8 - op) + (4 - lev) ≤ n → k ≤ 50 → RS h T om q k cl → cl + T.2 < 448 + q → XOK h T om q cl (dD lev op) (pCh T om n lev op q k) Q → callD (d + 4 * n + 4) 56 [.ref 213, .int (nI lev), .int (nI op)] h Q
theorem x_bracket (n d lev cls op q k cl : Nat) {T : TP} {om : Nat} (HP : HPx T om n) (hlev : lev < 4) (hop : op ≤ 8) (hn : op < 8 → 4 * (8 - (op + 1)) + (4 - lev) ≤ n) (hcls : cls < 256) (hk : k ≤ 50) {h : MH} (r : RS h T om q k cl) (hc : cl + T.2 < 448 + q) (hty : tTy T q ≠ 0) (D : Nat) (hD : op < 8 → dD lev (op + 1) ≤ D) (Q : RT) (kk : XOK h T om q cl D (pBr T (pCh T om n) lev cls op q k) Q) : callD (d + 4 * n + 5) 60 [.ref 213, .int (nI lev), .int (nI cls), .int (nI op)] h Q := by
  have s := r.1
  unfold XSr at s
  have hq := r.2.1.2.2.1
  obtain ⟨a1, a2⟩ := q_adv hq hty
  rw [E_Re_readsBracket]
  unfold pBr at kk
  by_cases c8 : 8 ≤ op
  · rw [if_pos c8] at kk
    have K := kk _ (ER_fl r (by omega))
    have F := r_fails (d + 4 * n + 3) r
    simp (disch := omega) only [U_Re_readsBracket (cm _), SA, SB, SC1, SC2, SG, SV, s, F, ltI, show ¬ op < 8 by omega, true_or, or_true, true_implies, not_true_eq_false, not_false_eq_true, false_implies, true_and, and_true]
    exact K
  · rw [if_neg c8] at kk
    have A := r_adv (d + 4 * n + 2) r
    have ra := RS_av r
    have k4 : hkd (avH h T q) 213 = 4 := s.1
    simp (disch := omega) only [U_Re_readsBracket (cm _), SA, SB, SC1, SC2, SG, SV, s, k4, A, ltI, show op < 8 by omega, nI_add, true_or, or_true, true_implies, not_true_eq_false, not_false_eq_true, false_implies, true_and, and_true]
    refine HP d lev (op + 1) (tBe T q) k cl _ _ hlev (by omega) (hn (by omega)) hk ra (by omega) ?_
    unfold XOK
    cases hr : pCh T om n lev (op + 1) (tBe T q) k with
    | error f =>
      rw [hr] at kk
      intro h' F6
      have K := kk h' (F6.pre (RF_av h T q))
      simp (disch := omega) only [U_Re_readsBracket (cm _), SA, SB, SV, true_or, or_true, true_implies, not_true_eq_false, not_false_eq_true, false_implies, true_and, and_true]
      exact K
    | ok w =>
      obtain ⟨v, q2, k2⟩ := w
      rw [hr] at kk
      simp only at kk ⊢
      intro h' cl' F' r' e6 c1 c2 c3 c4
      have s' := r'.1
      unfold XSr at s'
      have TS := r_takesSign (d + 4 * n + 1) cls hcls r'
      by_cases cg : bG T q2 cls = true
      · rw [if_pos cg] at kk
        have hq2 := r'.2.1.2.2.1
        obtain ⟨b1, b2'⟩ := q_adv hq2 (bG_ty cg)
        have K := kk (avH h' T q2) cl' (((RF_av h T q).trans F').trans (RF_av h' T q2)) (RS_av r') (by rw [av_6, e6, av_6]) c1 (by omega) c3 (c4.mono (hD (by omega)))
        simp only [if_pos cg] at TS
        simp (disch := omega) only [U_Re_readsBracket (cm _), SA, SB, SC1, SC2, SG, SV, s', TS, eqI, Nat.one_ne_zero, true_or, or_true, true_implies, not_true_eq_false, not_false_eq_true, false_implies, true_and, and_true]
        exact K
      · rw [if_neg cg] at kk
        have K := kk (flH h') ((ER_fl r' (by have := r'.2.1.2.2.1; omega)).pre ((RF_av h T q).trans F'))
        simp only [if_neg cg] at TS
        simp (disch := omega) only [U_Re_readsBracket (cm _), SA, SB, SC1, SC2, SG, SV, s', TS, eqI, Nat.one_ne_zero, true_or, or_true, true_implies, not_true_eq_false, not_false_eq_true, false_implies, true_and, and_true]
        exact K
