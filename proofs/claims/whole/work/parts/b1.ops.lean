/-! ===== answers told, by both ===== -/
def KQ (h h' : MH) : Prop := (hsz h' = hsz h ∧ hcc h' = hcc h ∧ hcu h' = hcu h ∧ SHE h h') ∧ (∀ a, a ≠ 273 → a ≠ 221 → a ≠ 218 → a ≠ 213 → a ≠ 214 → a ≠ 24 → hfi h' a = hfi h a) ∧ (hfi h' 214 1 = hfi h 214 1 ∧ hfi h' 24 2 = hfi h 24 2 ∧ hfi h' 24 8 = hfi h 24 8) ∧ (∀ k, k = 8 ∨ k = 13 ∨ k = 52 → hfi h' 273 k = hfi h 273 k) ∧ (∀ a, ¬ scr a → a ≠ 244 → a ≠ 274 → hia h' a = hia h a) ∧ (∀ a, (288 ≤ a ∧ a ≤ 290) ∨ a = 297 → hja h' a = hja h a) ∧ (∀ x, x < 27984 → hia h' 278 x = hia h 278 x)
theorem KQ.refl (h : MH) : KQ h h := ⟨⟨rfl, rfl, rfl, SHE.refl h⟩, fun _ _ _ _ _ _ _ => rfl, ⟨rfl, rfl, rfl⟩, fun _ _ => rfl, fun _ _ _ _ => rfl, fun _ _ => rfl, fun _ _ => rfl⟩
theorem KQ.trans {a b c : MH} (x : KQ a b) (y : KQ b c) : KQ a c := by
  obtain ⟨⟨x1, x2, x3, x4⟩, x5, x6, x7, x8, x9, x10⟩ := x
  obtain ⟨⟨y1, y2, y3, y4⟩, y5, y6, y7, y8, y9, y10⟩ := y
  exact ⟨⟨y1.trans x1, y2.trans x2, y3.trans x3, x4.trans y4⟩, fun p a b c d e f => (y5 p a b c d e f).trans (x5 p a b c d e f), ⟨y6.1.trans x6.1, y6.2.1.trans x6.2.1, y6.2.2.trans x6.2.2⟩, fun p q => (y7 p q).trans (x7 p q), fun p q r s => (y8 p q r s).trans (x8 p q r s), fun p q => (y9 p q).trans (x9 p q), fun p q => (y10 p q).trans (x10 p q)⟩
theorem KP.Q {h h' : MH} (x : KP h h') : KQ h h' := ⟨x.1, fun a b c d e f _ => x.2.1 a b c d e f, ⟨x.2.2.1.2, by rw [x.2.1 24 (by omega) (by omega) (by omega) (by omega) (by omega)], by rw [x.2.1 24 (by omega) (by omega) (by omega) (by omega) (by omega)]⟩, fun k hk => x.2.2.2.1 k (by omega), fun a b _ _ => x.2.2.2.2.1 a b, x.2.2.2.2.2.1, x.2.2.2.2.2.2⟩
theorem KQ.E {h h2 : MH} (k : KQ h h2) : FrE h h2 := ⟨k.1, k.2.2.2.2.1 0 (scr_n (by omega)) (by omega) (by omega)⟩
theorem GI_kq {h h' : MH} (k : KQ h h') (c : CtV h') (g : GI h) : GI h' := by
  obtain ⟨⟨k1, k2, k3, k4⟩, k5, k6, k7, k8, k9, k10⟩ := k
  obtain ⟨g1, ⟨g2, g3, g4⟩, g5, g6, ⟨nx, n, g7⟩, g8, g9, ⟨T, g10⟩, g11⟩ := g
  have X : ∀ x, 300 ≤ x → x < hsz h → hkd h' x = hkd h x ∧ hln h' x = hln h x ∧ hfr h' x = hfr h x ∧ hfi h' x = hfi h x ∧ hia h' x = hia h x := fun x h1 _ => ⟨by rw [k4.1], by rw [k4.2.1], by rw [k4.2.2.1], k5 x (by omega) (by omega) (by omega) (by omega) (by omega) (by omega), k8 x (scr_n (by omega)) (by omega) (by omega)⟩
  have F : ∀ a, a ≠ 24 → a < 213 ∨ (230 < a ∧ a < 273) → hfi h' a = hfi h a := fun a h2 ha => k5 a (by omega) (by omega) (by omega) (by omega) (by omega) h2
  have C : ∀ a, a ≠ 244 → a ≠ 274 → a < 216 ∨ (230 < a ∧ a ≠ 241 ∧ a ≠ 243 ∧ a < 278) → hia h' a = hia h a := fun a b c ha => k8 a (scr_n (by omega)) b c
  refine ⟨XS_e k4 g1, ⟨k4.M g2, WDM_a k9 g3, HDM_a k9 g4⟩, by omega, ?_, ⟨nx, n, RgV_a (F 40 (by omega) (by omega)) (k7 8 (by omega)) (fun i hi => F _ (by omega) (by omega)) (fun a h1 h2 => C a (by omega) (by omega) (by omega)) (k8 279 (scr_n (by omega)) (by omega) (by omega)) k10 g7⟩, ImV_a (by omega) k6.2.1 (fun W hW => ⟨F W (by omega) (by omega), F (W + 1) (by omega) (by omega), by rw [k4.2.2.2]⟩) (fun a h1 h2 => C a (by omega) (by omega) (by omega)) X (C 276 (by omega) (by omega) (by omega)) (C 277 (by omega) (by omega) (by omega)) g8, c, ⟨T, ?_⟩, DyV_a ⟨by rw [k4.1], by rw [k4.2.1], C 1 (by omega) (by omega) (by omega)⟩ k6.2.2 (k7 52 (by omega)) (F 231 (by omega) (by omega)) (fun a h1 h2 => C a (by omega) (by omega) (by omega)) (k8 299 (scr_n (by omega)) (by omega) (by omega)) g11⟩
  · rw [C 275 (by omega) (by omega) (by omega)]
    exact WV_a (by omega) ⟨F 25 (by omega) (by omega), F 26 (by omega) (by omega)⟩ (fun a h1 h2 => C a (by omega) (by omega) (by omega)) (by rw [k4.2.2.2]) X g6
  · unfold TpV at *
    rw [C 215 (by omega) (by omega) (by omega), k8 282 (scr_n (by omega)) (by omega) (by omega), k6.1, k7 13 (by omega)]
    exact g10
/-- fields of the reference that carry nothing from call to call -/
theorem KP_f (h : MH) (f : Nat → Int32) (hf : ∀ k, k = 1 ∨ k = 8 ∨ k = 11 ∨ k = 13 ∨ k = 18 ∨ k = 20 ∨ k = 48 ∨ k = 52 → f k = hfi h 273 k) : KP h (sFI h 273 f) := ⟨⟨rfl, rfl, rfl, SHE.refl h⟩, fun a ha _ _ _ _ => hfi_nn _ _ ha, ⟨by rw [hfi_nn _ _ (by omega)], by rw [hfi_nn _ _ (by omega)]⟩, fun k hk => by rw [hfi_s]; exact hf k hk, fun _ _ => rfl, fun _ _ => rfl, fun _ _ => rfl⟩
def thH (h : MH) : MH := sFI h 273 (up1 (hfi h 273) 0 (nI 0))
theorem KP_th (h : MH) : KP h (thH h) := KP_f h _ (fun k hk => up1_n _ _ (by omega))
def xrH (h : MH) (v : Int32) (i : Nat) : MH := sIA (sFI h 24 (up1 (hfi h 24) 13 v)) 244 (up1 (hia h 244) i (hia h 244 i + nI 1))
def xwH (h : MH) : MH := sFI h 24 (up1 (hfi h 24) 13 (nI 0))
theorem x_went (d : Nat) (v : Int32) {h : MH} (s : XS h) (Q : RT) : callD (d + 1) 117 [.ref 24, .int v] h Q = Q (some (.int v)) (xwH h) := by
  have k7 := s.1.1
  rw [E_Di_went]
  unfold xwH
  simp (disch := omega) only [U_Di_went (cm _), SA, SB, SC1, SC2, SG, SK, SV, k7, true_and]
/-- a refusal's place with the program -/
def rfX (k : Nat) : Nat := if k < 4 then k - 1 else k - 2
def rfV (k : Nat) : Int32 := -(nI k)
theorem x_refused (d k : Nat) (hk : k = 1 ∨ k = 2 ∨ k = 3 ∨ k = 5 ∨ k = 6) {h : MH} (s : XS h) (Q : RT) : callD (d + 1) 118 [.ref 24, .int (rfV k)] h Q = Q (some (.int (rfV k))) (xrH h (rfV k) (rfX k)) := by
  have so := s.1
  unfold XSo at so
  rw [E_Di_refused]
  unfold xrH
  rcases hk with rfl | rfl | rfl | rfl | rfl
  · have e1 : ¬ rfV 1 ≤ -4 := by decide
    have e2 : -(rfV 1) - nI 1 = nI 0 := by decide
    simp (disch := omega) only [U_Di_refused (cm _), SA, SB, SC1, SC2, SG, SK, SV, SM, so, e1, e2, show rfX 1 = 0 from rfl, ltI, leI, nI_clamp, in_eq, Nat.not_lt_zero, Nat.reduceLeDiff, true_implies, not_true_eq_false, not_false_eq_true, false_implies, true_and, and_true]
  · have e1 : ¬ rfV 2 ≤ -4 := by decide
    have e2 : -(rfV 2) - nI 1 = nI 1 := by decide
    simp (disch := omega) only [U_Di_refused (cm _), SA, SB, SC1, SC2, SG, SK, SV, SM, so, e1, e2, show rfX 2 = 1 from rfl, ltI, leI, nI_clamp, in_eq, Nat.not_lt_zero, Nat.reduceLeDiff, true_implies, not_true_eq_false, not_false_eq_true, false_implies, true_and, and_true]
  · have e1 : ¬ rfV 3 ≤ -4 := by decide
    have e2 : -(rfV 3) - nI 1 = nI 2 := by decide
    simp (disch := omega) only [U_Di_refused (cm _), SA, SB, SC1, SC2, SG, SK, SV, SM, so, e1, e2, show rfX 3 = 2 from rfl, ltI, leI, nI_clamp, in_eq, Nat.not_lt_zero, Nat.reduceLeDiff, true_implies, not_true_eq_false, not_false_eq_true, false_implies, true_and, and_true]
  · have e1 : rfV 5 ≤ -4 := by decide
    have e2 : -(rfV 5) - nI 2 = nI 3 := by decide
    simp (disch := omega) only [U_Di_refused (cm _), SA, SB, SC1, SC2, SG, SK, SV, SM, so, e1, e2, show rfX 5 = 3 from rfl, ltI, leI, nI_clamp, in_eq, Nat.not_lt_zero, Nat.reduceLeDiff, true_implies, not_true_eq_false, not_false_eq_true, false_implies, true_and, and_true]
  · have e1 : rfV 6 ≤ -4 := by decide
    have e2 : -(rfV 6) - nI 2 = nI 4 := by decide
    simp (disch := omega) only [U_Di_refused (cm _), SA, SB, SC1, SC2, SG, SK, SV, SM, so, e1, e2, show rfX 6 = 4 from rfl, ltI, leI, nI_clamp, in_eq, Nat.not_lt_zero, Nat.reduceLeDiff, true_implies, not_true_eq_false, not_false_eq_true, false_implies, true_and, and_true]
theorem m_tellR (d k : Nat) (hk : k = 1 ∨ k = 2 ∨ k = 3 ∨ k = 5 ∨ k = 6) {h : MH} (hM : MoS h) (Q : RT) : callD (d + 1) 133 [.ref 273, .int (rfV k)] h Q = Q (some (.int (rfV k))) (tnH h (rfV k) k) :=
  m_tellN d k (by omega) (by rcases hk with rfl | rfl | rfl | rfl | rfl <;> decide) (by rcases hk with rfl | rfl | rfl | rfl | rfl <;> decide) hM Q
