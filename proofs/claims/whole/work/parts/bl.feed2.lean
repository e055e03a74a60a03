/-! ===== four bytes on both tapes ===== -/
def tk4 (T : TP) (v : Int32) : TP := exT (exT (exT (exT T (byV v (nI 24))) (byV v (nI 16))) (byV v (nI 8))) (byV v (nI 0))
/-- the program's tape taken on -/
def TkX (h h' : MH) (T : TP) : Prop := ((hsz h' = hsz h ∧ hcc h' = hcc h ∧ hcu h' = hcu h ∧ SHE h h') ∧ hja h' = hja h) ∧ (∀ a, a ≠ 214 → hfi h' a = hfi h a) ∧ (∀ a, a ≠ 215 → hia h' a = hia h a) ∧ TB (hia h' 215) T ∧ hfi h' 214 1 = nI T.2
theorem TkX_1 {h : MH} {T : TP} {b : Nat} (t : TB (hia h 215) T) (hb : b < 256) (hn : T.2 < 400) : TkX h (tbX h T.2 (nI b)) (exT T b) := by
  unfold tbX
  have c1 := she_ia h 215 (up1 (hia h 215) T.2 (nI b))
  have c2 := hia_s h 215 (up1 (hia h 215) T.2 (nI b))
  have c3 : ∀ a, a ≠ 215 → hia (sIA h 215 (up1 (hia h 215) T.2 (nI b))) a = hia h a := fun a ha => hia_n _ _ ha
  have c4 := fi_ia h 215 (up1 (hia h 215) T.2 (nI b))
  generalize sIA h 215 (up1 (hia h 215) T.2 (nI b)) = h1 at *
  have d1 := she_fi h1 214 (up1 (hfi h 214) 1 (nI (T.2 + 1)))
  have d2 := hfi_s h1 214 (up1 (hfi h 214) 1 (nI (T.2 + 1)))
  have d3 : ∀ a, a ≠ 214 → hfi (sFI h1 214 (up1 (hfi h 214) 1 (nI (T.2 + 1)))) a = hfi h1 a := fun a ha => hfi_nn _ _ ha
  have d4 := ia_fi h1 214 (up1 (hfi h 214) 1 (nI (T.2 + 1)))
  generalize sFI h1 214 (up1 (hfi h 214) 1 (nI (T.2 + 1))) = h2 at *
  exact ⟨she_t c1 d1, fun a ha => by rw [d3 a ha, c4], fun a ha => by rw [d4, c3 a ha], by rw [d4, c2]; exact TB_1 t hb hn, by rw [d2, up1_s]; rfl⟩
theorem TkX.trans {a b c : MH} {T T' : TP} (x : TkX a b T) (y : TkX b c T') : TkX a c T' := ⟨she_t x.1 y.1, fun p q => (y.2.1 p q).trans (x.2.1 p q), fun p q => (y.2.2.1 p q).trans (x.2.2.1 p q), y.2.2.2⟩
theorem x_takes (d : Nat) (v : Int32) {h : MH} {T : TP} (sr : XSr h) (t : TB (hia h 215) T) (l : hfi h 214 1 = nI T.2) (hn : T.2 + 4 ≤ 400) (Q : RT) (kk : ∀ h', TkX h h' (tk4 T v) → Q none h') : callD (d + 1) 65 [.ref 214, .int v] h Q := by
  rw [E_Ta_takes]
  have st : ∀ (s s' : Int32) (h : MH) (T : TP), XSr h → TB (hia h 215) T → hfi h 214 1 = nI T.2 → T.2 < 400 → ¬ s < nI 0 → s + -8 = s' → ∀ lm, (∀ h', TkX h h' (exT T (byV v s)) → XSr h' → WP cd_Ta_takes (callD d) Q lm 3 [] [some (.ref 214), some (.int v), some (.int s')] h') → WP cd_Ta_takes (callD d) Q lm 3 [] [some (.ref 214), some (.int v), some (.int s)] h := fun s s' h T sr t l hn hge hs lm k => by
    obtain ⟨b1, b2⟩ := byV_e v s
    rw [x_tk1 d T.2 s s' v hn hge hs sr l Q lm, b2]
    have x := TkX_1 t b1 hn
    exact k _ x (XSr_e x.1.1.2.2.2 sr)
  simp (disch := omega) only [U_Ta_takes (cm _), SA, SB, SG, SV]
  refine st (nI 24) (nI 16) h T sr t l (by omega) (by decide) (by decide) _ (fun h1 x1 s1 => ?_)
  have n1 : (exT T (byV v (nI 24))).2 = T.2 + 1 := rfl
  refine st (nI 16) (nI 8) h1 _ s1 x1.2.2.2.1 x1.2.2.2.2 (by omega) (by decide) (by decide) _ (fun h2 x2 s2 => ?_)
  have n2 : (exT (exT T (byV v (nI 24))) (byV v (nI 16))).2 = T.2 + 2 := rfl
  refine st (nI 8) (nI 0) h2 _ s2 x2.2.2.2.1 x2.2.2.2.2 (by omega) (by decide) (by decide) _ (fun h3 x3 s3 => ?_)
  have n3 : (exT (exT (exT T (byV v (nI 24))) (byV v (nI 16))) (byV v (nI 8))).2 = T.2 + 3 := rfl
  refine st (nI 0) (-8) h3 _ s3 x3.2.2.2.1 x3.2.2.2.2 (by omega) (by decide) (by decide) _ (fun h4 x4 s4 => ?_)
  have Y := kk h4 (((x1.trans x2).trans x3).trans x4)
  rw [U_Ta_takes_3 (cm _)]
  have z : (-8 : Int32) < nI 0 := by decide
  simp (disch := omega) only [U_Ta_takes (cm _), SA, SB, SG, SV, z, true_implies, not_true_eq_false, not_false_eq_true, false_implies, true_and, and_true]
  exact Y
/-- the reference's tape taken on -/
def TkM (h h' : MH) (T : TP) : Prop := ((hsz h' = hsz h ∧ hcc h' = hcc h ∧ hcu h' = hcu h ∧ SHE h h') ∧ hja h' = hja h) ∧ (∀ a, a ≠ 273 → hfi h' a = hfi h a) ∧ (∀ k, k ≠ 13 → hfi h' 273 k = hfi h 273 k) ∧ (∀ a, a ≠ 282 → hia h' a = hia h a) ∧ TB (hia h' 282) T ∧ hfi h' 273 13 = nI T.2
theorem TkM_1 {h : MH} {T : TP} {b : Nat} (t : TB (hia h 282) T) (hb : b < 256) (hn : T.2 < 400) : TkM h (tbM h T.2 (nI b)) (exT T b) := by
  unfold tbM
  have c1 := she_ia h 282 (up1 (hia h 282) T.2 (nI b))
  have c2 := hia_s h 282 (up1 (hia h 282) T.2 (nI b))
  have c3 : ∀ a, a ≠ 282 → hia (sIA h 282 (up1 (hia h 282) T.2 (nI b))) a = hia h a := fun a ha => hia_n _ _ ha
  have c4 := fi_ia h 282 (up1 (hia h 282) T.2 (nI b))
  generalize sIA h 282 (up1 (hia h 282) T.2 (nI b)) = h1 at *
  have d1 := she_fi h1 273 (up1 (hfi h 273) 13 (nI (T.2 + 1)))
  have d2 := hfi_s h1 273 (up1 (hfi h 273) 13 (nI (T.2 + 1)))
  have d3 : ∀ a, a ≠ 273 → hfi (sFI h1 273 (up1 (hfi h 273) 13 (nI (T.2 + 1)))) a = hfi h1 a := fun a ha => hfi_nn _ _ ha
  have d4 := ia_fi h1 273 (up1 (hfi h 273) 13 (nI (T.2 + 1)))
  generalize sFI h1 273 (up1 (hfi h 273) 13 (nI (T.2 + 1))) = h2 at *
  exact ⟨she_t c1 d1, fun a ha => by rw [d3 a ha, c4], fun k hk => by rw [d2, up1_n _ _ hk], fun a ha => by rw [d4, c3 a ha], by rw [d4, c2]; exact TB_1 t hb hn, by rw [d2, up1_s]; rfl⟩
theorem TkM.trans {a b c : MH} {T T' : TP} (x : TkM a b T) (y : TkM b c T') : TkM a c T' := ⟨she_t x.1 y.1, fun p q => (y.2.1 p q).trans (x.2.1 p q), fun p q => (y.2.2.1 p q).trans (x.2.2.1 p q), fun p q => (y.2.2.2.1 p q).trans (x.2.2.2.1 p q), y.2.2.2.2⟩
theorem m_four (d : Nat) (v : Int32) {h : MH} {T : TP} (hM : MoS h) (t : TB (hia h 282) T) (l : hfi h 273 13 = nI T.2) (hn : T.2 + 4 ≤ 400) (Q : RT) (kk : ∀ h', TkM h h' (tk4 T v) → Q none h') : callD (d + 1) 160 [.ref 273, .int v] h Q := by
  rw [E_Mo_four]
  have st : ∀ (s s' : Int32) (h : MH) (T : TP), MoS h → TB (hia h 282) T → hfi h 273 13 = nI T.2 → T.2 < 400 → ¬ s < nI 0 → s + -8 = s' → ∀ lm, (∀ h', TkM h h' (exT T (byV v s)) → MoS h' → WP cd_Mo_four (callD d) Q lm 3 [] [some (.ref 273), some (.int v), some (.int s')] h') → WP cd_Mo_four (callD d) Q lm 3 [] [some (.ref 273), some (.int v), some (.int s)] h := fun s s' h T hM t l hn hge hs lm k => by
    obtain ⟨b1, b2⟩ := byV_e v s
    rw [m_fr1 d T.2 s s' v hn hge hs hM.tap l Q lm, b2]
    have x := TkM_1 t b1 hn
    exact k _ x (x.1.1.2.2.2.M hM)
  simp (disch := omega) only [U_Mo_four (cm _), SA, SB, SG, SV]
  refine st (nI 24) (nI 16) h T hM t l (by omega) (by decide) (by decide) _ (fun h1 x1 s1 => ?_)
  have n1 : (exT T (byV v (nI 24))).2 = T.2 + 1 := rfl
  refine st (nI 16) (nI 8) h1 _ s1 x1.2.2.2.2.1 x1.2.2.2.2.2 (by omega) (by decide) (by decide) _ (fun h2 x2 s2 => ?_)
  have n2 : (exT (exT T (byV v (nI 24))) (byV v (nI 16))).2 = T.2 + 2 := rfl
  refine st (nI 8) (nI 0) h2 _ s2 x2.2.2.2.2.1 x2.2.2.2.2.2 (by omega) (by decide) (by decide) _ (fun h3 x3 s3 => ?_)
  have n3 : (exT (exT (exT T (byV v (nI 24))) (byV v (nI 16))) (byV v (nI 8))).2 = T.2 + 3 := rfl
  refine st (nI 0) (-8) h3 _ s3 x3.2.2.2.2.1 x3.2.2.2.2.2 (by omega) (by decide) (by decide) _ (fun h4 x4 s4 => ?_)
  have Y := kk h4 (((x1.trans x2).trans x3).trans x4)
  rw [U_Mo_four_3 (cm _)]
  have z : (-8 : Int32) < nI 0 := by decide
  simp (disch := omega) only [U_Mo_four (cm _), SA, SB, SG, SV, z, true_implies, not_true_eq_false, not_false_eq_true, false_implies, true_and, and_true]
  exact Y
theorem tk4_n (T : TP) (v : Int32) : (tk4 T v).2 = T.2 + 4 := rfl
