/-! ===== end, forget, force, seen, terms ===== -/
def KTp (h h' : MH) : Prop := (hsz h' = hsz h ∧ hcc h' = hcc h ∧ hcu h' = hcu h ∧ SHE h h') ∧ (∀ a, a ≠ 273 → a ≠ 221 → a ≠ 218 → a ≠ 213 → a ≠ 214 → a ≠ 24 → hfi h' a = hfi h a) ∧ (hfi h' 24 2 = hfi h 24 2 ∧ hfi h' 24 8 = hfi h 24 8) ∧ (hfi h' 273 8 = hfi h 273 8 ∧ hfi h' 273 52 = hfi h 273 52) ∧ (∀ a, ¬ scr a → a ≠ 244 → a ≠ 274 → a ≠ 215 → a ≠ 282 → hia h' a = hia h a) ∧ (∀ a, (288 ≤ a ∧ a ≤ 290) ∨ a = 297 → hja h' a = hja h a) ∧ (∀ x, x < 27984 → hia h' 278 x = hia h 278 x)
theorem KQ.Tp {h h' : MH} (k : KQ h h') : KTp h h' := ⟨k.1, k.2.1, ⟨k.2.2.1.2.1, k.2.2.1.2.2⟩, ⟨k.2.2.2.1 8 (by omega), k.2.2.2.1 52 (by omega)⟩, fun a b c d _ _ => k.2.2.2.2.1 a b c d, k.2.2.2.2.2.1, k.2.2.2.2.2.2⟩
theorem KTp.trans {a b c : MH} (x : KTp a b) (y : KTp b c) : KTp a c := by
  obtain ⟨⟨x1, x2, x3, x4⟩, x5, x6, x7, x8, x9, x10⟩ := x
  obtain ⟨⟨y1, y2, y3, y4⟩, y5, y6, y7, y8, y9, y10⟩ := y
  exact ⟨⟨y1.trans x1, y2.trans x2, y3.trans x3, x4.trans y4⟩, fun p a b c d e f => (y5 p a b c d e f).trans (x5 p a b c d e f), ⟨y6.1.trans x6.1, y6.2.trans x6.2⟩, ⟨y7.1.trans x7.1, y7.2.trans x7.2⟩, fun p q r s t u => (y8 p q r s t u).trans (x8 p q r s t u), fun p q => (y9 p q).trans (x9 p q), fun p q => (y10 p q).trans (x10 p q)⟩
theorem KTp_fi (h : MH) {a : Nat} (f : Nat → Int32) (ha : a = 213 ∨ a = 214 ∨ a = 221 ∨ a = 218 ∨ (a = 24 ∧ f 2 = hfi h 24 2 ∧ f 8 = hfi h 24 8) ∨ (a = 273 ∧ f 8 = hfi h 273 8 ∧ f 52 = hfi h 273 52)) : KTp h (sFI h a f) := by
  refine ⟨⟨rfl, rfl, rfl, SHE.refl h⟩, fun b _ _ _ _ _ _ => hfi_nn _ _ (by omega), ⟨?_, ?_⟩, ⟨?_, ?_⟩, fun _ _ _ _ _ _ => rfl, fun _ _ => rfl, fun _ _ => rfl⟩
  · by_cases c : a = 24
    · subst c; rw [hfi_s]; rcases ha with z | z | z | z | z | z <;> first | omega | exact z.2.1
    · rw [hfi_nn _ _ (fun z => c z.symm)]
  · by_cases c : a = 24
    · subst c; rw [hfi_s]; rcases ha with z | z | z | z | z | z <;> first | omega | exact z.2.2
    · rw [hfi_nn _ _ (fun z => c z.symm)]
  · by_cases c : a = 273
    · subst c; rw [hfi_s]; rcases ha with z | z | z | z | z | z <;> first | omega | exact z.2.1
    · rw [hfi_nn _ _ (fun z => c z.symm)]
  · by_cases c : a = 273
    · subst c; rw [hfi_s]; rcases ha with z | z | z | z | z | z <;> first | omega | exact z.2.2
    · rw [hfi_nn _ _ (fun z => c z.symm)]
theorem KTp.E {h h2 : MH} (k : KTp h h2) : FrE h h2 := ⟨k.1, k.2.2.2.2.1 0 (scr_n (by omega)) (by omega) (by omega) (by omega) (by omega)⟩
theorem GI_kt {h h' : MH} (k : KTp h h') (c : CtV h') (t : ∃ T, TpV h' T) (g : GI h) : GI h' := by
  obtain ⟨⟨k1, k2, k3, k4⟩, k5, k6, k7, k8, k9, k10⟩ := k
  obtain ⟨nx, n, g7⟩ := g.2.2.2.2.1
  have F : ∀ a, a ≠ 24 → a < 213 ∨ (230 < a ∧ a < 273) ∨ 300 ≤ a → hfi h' a = hfi h a := fun a h2 ha => k5 a (by omega) (by omega) (by omega) (by omega) (by omega) h2
  have C : ∀ a, a ≠ 244 → a ≠ 274 → a < 215 ∨ (230 < a ∧ a ≠ 241 ∧ a ≠ 243 ∧ a < 278) ∨ a = 279 ∨ 299 ≤ a → hia h' a = hia h a := fun a b c ha => k8 a (scr_n (by omega)) b c (by omega) (by omega)
  refine GI_mk (KI_e k1 k4 k9 ⟨k6.1, k6.2, k7.2⟩ (fun a ha => F a (by omega) (by omega)) (fun a ha => C a (by omega) (by omega) (by omega))) g ?_ ⟨nx, n, RgV_a (F 40 (by omega) (by omega)) k7.1 (fun i hi => F _ (by omega) (by omega)) (fun a h1 h2 => C a (by omega) (by omega) (by omega)) (C 279 (by omega) (by omega) (by omega)) k10 g7⟩ c t
  rw [C 275 (by omega) (by omega) (by omega)]
  exact WV_a (by omega) ⟨F 25 (by omega) (by omega), F 26 (by omega) (by omega)⟩ (fun a h1 h2 => C a (by omega) (by omega) (by omega)) (by rw [k4.2.2.2]) (fun x h1 _ => ⟨by rw [k4.1], by rw [k4.2.1], by rw [k4.2.2.1], F x (by omega) (by omega), C x (by omega) (by omega) (by omega)⟩) g.2.2.2.1
theorem op_end (n : Int32) : PairOp 1 84 162 [.int n] := fun d h g => by
  have so := g.1.1
  have sr := g.1.2.1
  unfold XSo at so
  unfold XSr at sr
  have k8 := g.2.1.1.1
  obtain ⟨T, t⟩ := g.2.2.2.2.2.2.2.1
  have l1 := t.2.2.1
  have l2 := t.2.2.2
  have hT := t.1.1
  rw [E_Di_end]
  have no : ∀ Q : RT, Q (some (.int (-1))) h → (n < nI 0 ∨ ¬ n ≤ nI T.2) → WP cd_Di_end (callD d) Q (hcc h, hcu h) 0 [] [some (.ref 24), some (.int n)] h := fun Q q z => by
    by_cases c1 : n < nI 0
    · simp (disch := omega) only [U_Di_end (cm _), SA, SB, SC1, SC2, SG, SK, SV, so, sr, l1, c1, true_implies, not_true_eq_false, not_false_eq_true, false_implies, true_and, and_true]
      exact q
    · have c2 : ¬ n ≤ nI T.2 := z.resolve_left c1
      simp (disch := omega) only [U_Di_end (cm _), SA, SB, SC1, SC2, SG, SK, SV, so, sr, l1, c1, c2, true_implies, not_true_eq_false, not_false_eq_true, false_implies, true_and, and_true]
      exact q
  by_cases c : n < nI 0 ∨ ¬ n ≤ nI T.2
  · refine no _ ⟨_, rfl, ?_⟩ c
    rw [E_Mo_end]
    by_cases c1 : n < nI 0
    · simp (disch := omega) only [U_Mo_end (cm _), SA, SB, SC1, SC2, SG, SK, SV, up1_s, up1_n, k8, l2, c1, true_implies, not_true_eq_false, not_false_eq_true, false_implies, true_and, and_true]
      exact Pst_e (GI_kp (KP_th h) g) (KP_th h).E
    · have c2 : ¬ n ≤ nI T.2 := c.resolve_left c1
      simp (disch := omega) only [U_Mo_end (cm _), SA, SB, SC1, SC2, SG, SK, SV, up1_s, up1_n, k8, l2, c1, c2, true_implies, not_true_eq_false, not_false_eq_true, false_implies, true_and, and_true]
      exact Pst_e (GI_kp (KP_th h) g) (KP_th h).E
  · have c1 : ¬ n < nI 0 := fun z => c (Or.inl z)
    have c2 : n ≤ nI T.2 := Decidable.byContradiction (fun z => c (Or.inr z))
    obtain ⟨k, hk, rfl⟩ := in_n (by omega) c1 c2
    clear no
    simp (disch := omega) only [U_Di_end (cm _), SA, SB, SC1, SC2, SG, SK, SV, so, sr, l1, c1, c2, true_implies, not_true_eq_false, not_false_eq_true, false_implies, true_and, and_true]
    refine ⟨_, rfl, ?_⟩
    rw [E_Mo_end]
    have z0 : hfi (sFI h 214 (up1 (hfi h 214) 1 (nI k))) 273 = hfi h 273 := hfi_nn _ _ (by omega)
    simp (disch := omega) only [U_Mo_end (cm _), SA, SB, SC1, SC2, SG, SK, SV, up1_s, up1_n, k8, z0, l2, c1, c2, true_implies, not_true_eq_false, not_false_eq_true, false_implies, true_and, and_true]
    have KK : KTp h (sFI (sFI h 214 (up1 (hfi h 214) 1 (nI k))) 273 (up1 (up1 (hfi h 273) 0 (nI 0)) 13 (nI k))) := (KTp_fi h _ (by omega)).trans (KTp_fi _ _ (Or.inr (Or.inr (Or.inr (Or.inr (Or.inr ⟨rfl, by rw [z0, up1_n _ _ (by omega), up1_n _ _ (by omega)], by rw [z0, up1_n _ _ (by omega), up1_n _ _ (by omega)]⟩))))))
    refine Pst_e ?_ KK.E
    refine GI_kt KK ?_ ⟨(T.1, k), TP_end hk t rfl rfl ?_ ?_⟩ g
    · have cv := g.2.2.2.2.2.2.1
      have a1 : hfi (sFI (sFI h 214 (up1 (hfi h 214) 1 (nI k))) 273 (up1 (up1 (hfi h 273) 0 (nI 0)) 13 (nI k))) 24 = hfi h 24 := by rw [hfi_nn _ _ (by omega), hfi_nn _ _ (by omega)]
      have a2 : hfi (sFI (sFI h 214 (up1 (hfi h 214) 1 (nI k))) 273 (up1 (up1 (hfi h 273) 0 (nI 0)) 13 (nI k))) 213 = hfi h 213 := by rw [hfi_nn _ _ (by omega), hfi_nn _ _ (by omega)]
      have a3 : ∀ n, n ≠ 0 → n ≠ 13 → hfi (sFI (sFI h 214 (up1 (hfi h 214) 1 (nI k))) 273 (up1 (up1 (hfi h 273) 0 (nI 0)) 13 (nI k))) 273 n = hfi h 273 n := fun n h1 h2 => by rw [hfi_s, up1_n _ _ h2, up1_n _ _ h1]
      unfold CtV at *
      rw [a1, a2, a3 1 (by omega) (by omega), a3 11 (by omega) (by omega), a3 48 (by omega) (by omega), a3 18 (by omega) (by omega), a3 20 (by omega) (by omega)]
      exact cv
    · rw [hfi_nn _ _ (by omega), hfi_s, up1_s]
    · rw [hfi_s, up1_s]
