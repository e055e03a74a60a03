/-! ===== clauses and texts, read once and for all ===== -/
abbrev CLA : Type := Nat × Nat × Option VAL × (Nat → VAL)
def vZ : VAL := fun _ => none
/-- which head (99: none): ranks 0, bars 1; link 0, step 1, cut 2 -/
def hdA (T : TP) (om q : Nat) : Nat := if om = 0 then (if bW T q 3 = true then 0 else if bW T q 4 = true then 1 else 99) else (if bW T q 0 = true then 0 else if bW T q 1 = true then 1 else if bW T q 2 = true then 2 else 99)
def nSm (om kd : Nat) : Nat := if om = 0 then (if kd = 0 then 1 else 0) else if kd = 0 then 3 else if kd = 2 then 1 else 0
def pSm (T : TP) (om : Nat) : Nat → Nat → Nat → Nat → (Nat → VAL) → Except Nat ((Nat → VAL) × Nat × Nat)
  | 0, _, q, k, vs => .ok (vs, q, k)
  | m + 1, i, q, k, vs => if i = 0 ∨ bW T q (4 + i) = true then (match pCh T om 40 2 0 (if i = 0 then q else tBe T q) k with
    | .error f => .error f
    | .ok (v, q2, k2) => pSm T om m (i + 1) q2 k2 (up1 vs i v)) else .error (tAt T q)
def pTm (T : TP) (om q : Nat) : Except Nat (Nat × Nat) := if om = 1 ∧ bW T q 20 = true then (if bN T (tBe T q) 1 20 = true then .ok (nmV T (tBe T q), tBe T (tBe T q)) else .error (tAt T (tBe T q))) else .ok (1, q)
def pTs (T : TP) (om q k : Nat) : Except Nat (Option VAL × Nat × Nat) := if bW T q 21 = true then (match pCh T om 40 0 0 (tBe T q) k with
  | .error f => .error f
  | .ok (v, q2, k2) => .ok (some v, q2, k2)) else .ok (none, q, k)
def pCl (T : TP) (om q k : Nat) : Except Nat (CLA × Nat × Nat) := if hdA T om q = 99 then .error (tAt T q) else match pSm T om (nSm om (hdA T om q)) 0 (tBe T q) k (fun _ => vZ) with
  | .error f => .error f
  | .ok (vs, q1, k1) => match pTm T om q1 with
    | .error f => .error f
    | .ok (n, q2) => match pTs T om q2 k1 with
      | .error f => .error f
      | .ok (t, q3, k3) => .ok ((hdA T om q, n, t, vs), q3, k3)
def pTx (T : TP) (om : Nat) : Nat → Nat → Nat → Except Nat (List CLA)
  | 0, q, _ => .error (tAt T q)
  | m + 1, q, k => match pCl T om q k with
    | .error f => .error f
    | .ok (c, q1, k1) => if tTy T q1 = 0 then .ok [c] else if bG T q1 59 = true then (match pTx T om m (tBe T q1) k1 with
      | .error f => .error f
      | .ok cs => .ok (c :: cs)) else .error (tAt T q1)
/-! ===== the program's clauses ===== -/
def XEc (cf : Nat → Int32) (N om t : Nat) (v : VAL) : Prop := ∃ t' D, D ≤ 60 ∧ XSg cf om t t' D v ∧ t' < N ∧ cf t' = nI 0
theorem XEc.of {cf cf' : Nat → Int32} {N N' om t : Nat} {v : VAL} (x : XEc cf N om t v) (hN : N ≤ N') (h : ∀ i, i < N → cf' i = cf i) : XEc cf' N' om t v := by
  obtain ⟨t', D, hD, s, ht, e⟩ := x
  exact ⟨t', D, hD, s.of (fun k _ h2 => h k (by omega)), by omega, (h t' ht).trans e⟩
/-- the frame of the reader of texts -/
def RG (h h' : MH) : Prop := (hsz h' = hsz h ∧ hcc h' = hcc h ∧ hcu h' = hcu h ∧ SHE h h' ∧ hfj h' = hfj h ∧ hja h' = hja h) ∧ (∀ a, a ≠ 213 → a ≠ 214 → hfi h' a = hfi h a) ∧ hfi h' 213 5 = hfi h 213 5 ∧ hfi h' 214 1 = hfi h 214 1 ∧ (∀ a, a ≠ 216 → a ≠ 217 → hia h' a = hia h a)
theorem RG.refl (h : MH) : RG h h := ⟨⟨rfl, rfl, rfl, SHE.refl h, rfl, rfl⟩, fun _ _ _ => rfl, rfl, rfl, fun _ _ _ => rfl⟩
theorem RG.trans {a b c : MH} (x : RG a b) (y : RG b c) : RG a c := by
  obtain ⟨⟨x1, x2, x3, x4, x5, x6⟩, x7, x8, x9, x10⟩ := x
  obtain ⟨⟨y1, y2, y3, y4, y5, y6⟩, y7, y8, y9, y10⟩ := y
  exact ⟨⟨y1.trans x1, y2.trans x2, y3.trans x3, x4.trans y4, y5.trans x5, y6.trans x6⟩, fun p q r => (y7 p q r).trans (x7 p q r), y8.trans x8, y9.trans x9, fun p q r => (y10 p q r).trans (x10 p q r)⟩
theorem RF.G {h h' : MH} (f : RF h h') : RG h h' := ⟨f.1, f.2.1, f.2.2.1, f.2.2.2.1, fun a h1 _ => f.2.2.2.2 a h1⟩
theorem RG_c (h : MH) (f : Nat → Int32) : RG h (sIA h 217 f) := ⟨⟨rfl, rfl, rfl, SHE.refl h, rfl, rfl⟩, fun _ _ _ => rfl, rfl, rfl, fun a _ h2 => hia_n _ _ h2⟩
theorem RS_c {h : MH} {T : TP} {om q k cl : Nat} (r : RS h T om q k cl) (f : Nat → Int32) : RS (sIA h 217 f) T om q k cl := ⟨XSr_e (SHE.refl h) r.1, XTk_e (SHE.refl h) (hia_n _ _ (by omega)) rfl r.2.1, r.2.2⟩
def EG (h h' : MH) (f : Nat) : Prop := RG h h' ∧ hfi h' 213 6 = nI f
theorem EG.pre {a b c : MH} {f : Nat} (x : RG a b) (y : EG b c f) : EG a c f := ⟨x.trans y.1, y.2⟩
def SmK (h : MH) (T : TP) (om q cl b i m : Nat) (Q : RT) : Except Nat ((Nat → VAL) × Nat × Nat) → Prop
  | .error f => ∀ h', EG h h' f → Q (some (.int (nI 0))) h'
  | .ok (vs, q', k') => ∀ h' cl', RG h h' → RS h' T om q' k' cl' → hfi h' 213 6 = hfi h 213 6 → cl ≤ cl' → cl' + q ≤ cl + q' + (if i = 0 ∧ m ≠ 0 then 1 else 0) → (∀ j, j < cl → hia h' 216 j = hia h 216 j) → (∀ x, (x < b + 3 + i ∨ b + 3 + i + m ≤ x) → hia h' 217 x = hia h 217 x) → (∀ j, i ≤ j → j < i + m → ∃ t, t ≤ 448 ∧ hia h' 217 (b + 3 + j) = nI t ∧ XEc (hia h' 216) cl' om t (vs j)) → Q (some (.int (nI 1))) h'
theorem pSm_lo {T : TP} {om : Nat} : ∀ (m i q k : Nat) (vs : Nat → VAL) {vs' : Nat → VAL} {q' k' : Nat}, pSm T om m i q k vs = .ok (vs', q', k') → ∀ j, j < i → vs' j = vs j
  | 0, i, q, k, vs, vs', q', k', h, j, hj => by cases h; rfl
  | m + 1, i, q, k, vs, vs', q', k', h, j, hj => by
    unfold pSm at h
    split at h
    · split at h
      · cases h
      · rw [pSm_lo m (i + 1) _ _ _ h j (by omega), up1_n _ _ (by omega)]
    · cases h
theorem x_s60 (d b i q k cl : Nat) {T : TP} {om : Nat} (hom : om ≤ 1) (hb : b ≤ 66) (hi : i ≤ 2) (hk : k ≤ 50) {h : MH} (r : RS h T om q k cl) (hc : cl + T.2 < 448 + q) (w2 : Option Value) (s3 : Int32) (Q : RT) (lm : Nat × Nat) (K0 : ∀ f, pCh T om 40 2 0 q k = .error f → ∀ h', EG h h' f → Q (some (.int (nI 0))) h') (K1 : ∀ v q2 k2, pCh T om 40 2 0 q k = .ok (v, q2, k2) → ∀ h' cl', RG h h' → RS h' T om q2 k2 cl' → hfi h' 213 6 = hfi h 213 6 → cl < cl' → cl' + q ≤ cl + q2 + 1 → cl' ≤ 448 → (∀ j, j < cl → hia h' 216 j = hia h 216 j) → hia h' 217 = up1 (hia h 217) (b + 3 + i) (nI cl) → XEc (hia h' 216) cl' om cl v → WP cd_Re_readsSums (callD (d + 164)) Q lm 27 [] [some (.ref 213), some (.int (nI b)), w2, some (.int s3), some (.int (nI (i + 1)))] h') : WP cd_Re_readsSums (callD (d + 164)) Q lm 60 [] [some (.ref 213), some (.int (nI b)), w2, some (.int s3), some (.int (nI i))] h := by
  have s := r.1
  unfold XSr at s
  have e3 : hfi h 213 3 = nI cl := r.2.2.1
  have hq := r.2.1.2.2.1
  have R1 := RS_c r (up1 (hia h 217) (b + 3 + i) (nI cl))
  have F1 := RG_c h (up1 (hia h 217) (b + 3 + i) (nI cl))
  have CH : ∀ Q, XOK (sIA h 217 (up1 (hia h 217) (b + 3 + i) (nI cl))) T om q cl (dD 2 0) (pCh T om 40 2 0 q k) Q → callD (d + 164) 56 [.ref 213, .int (nI 2), .int (nI 0)] (sIA h 217 (up1 (hia h 217) (b + 3 + i) (nI cl))) Q := fun Q kk => by
    have := x_chain hom 40 d 2 0 q k cl (sIA h 217 (up1 (hia h 217) (b + 3 + i) (nI cl))) Q (by omega) (by omega) (by omega) hk R1 hc kk
    rw [show d + 4 * 40 + 4 = d + 164 by omega] at this
    exact this
  simp (disch := omega) only [U_Re_readsSums (cm _), SA, SB, SC1, SC2, SG, SV, SM, s, e3, nI_add, nI_clamp, in_eq, eqI, Nat.reduceLeDiff, true_or, or_true, true_implies, not_true_eq_false, not_false_eq_true, false_implies, true_and, and_true]
  refine CH _ ?_
  clear CH
  unfold XOK
  cases hp : pCh T om 40 2 0 q k with
  | error f =>
    intro h' e
    have Y := K0 f hp h' ⟨F1.trans e.1.G, e.2.1⟩
    simp (disch := omega) only [U_Re_readsSums (cm _), SA, SB, SC1, SC2, SG, SV, eqI, Nat.one_ne_zero, true_or, or_true, true_implies, not_true_eq_false, not_false_eq_true, false_implies, true_and, and_true]
    exact Y
  | ok w =>
    obtain ⟨v, q2, k2⟩ := w
    intro h' cl' f' r' e6 c1 c2 kc sg
    have hq2 := r'.2.1.2.2.1
    have R2 := RS_em (o := 0) (a := 0) r'
    have s' := r'.1
    unfold XSr at s'
    have EM := fun Q => r_emits (d + 163) 0 om q2 k2 cl' 0 0 (by omega) (by omega) (by omega) r' Q
    have Y := K1 v q2 k2 hp (emF h' cl' 0 0) (cl' + 1) (F1.trans (f'.G.trans (RF_em h' cl' 0 0).G)) R2 (em_6.trans e6) (by omega) (by omega) (by omega) (fun j hj => by rw [em_c, up1_n _ _ (by omega), kc j hj, hia_n _ _ (by omega)]) (by
      rw [(RF_em h' cl' 0 0).2.2.2.2 217 (by omega), f'.2.2.2.2 217 (by omega), hia_s]) ⟨cl', dD 2 0, by decide, sg.of (fun j _ h2 => by rw [em_c, up1_n _ _ (by omega)]), by omega, by rw [em_c, up1_s]⟩
    generalize emF h' cl' 0 0 = h2 at *
    simp (disch := omega) only [U_Re_readsSums (cm _), SA, SB, SC1, SC2, SG, SV, SM, s', EM, nI_add, nI_clamp, eqI, Nat.one_ne_zero, true_or, or_true, true_implies, not_true_eq_false, not_false_eq_true, false_implies, true_and, and_true]
    exact Y
