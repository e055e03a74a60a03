/-! ===== the state of the reference's reader ===== -/
def MR (h : MH) (T : TP) (om q : Nat) (pl : PLt) (cf : CFt) (nc k op : Nat) : Prop := MTk h T q ∧ SR h pl cf nc ∧ WDM h ∧ hfi h 273 19 = nI 0 ∧ hfi h 273 20 = nI om ∧ hfi h 273 26 = nI k ∧ hfi h 273 30 = nI op ∧ hfi h 273 18 = -1
/-- it is bad, at f -/
def MEr (h : MH) (f : Nat) : Prop := hfi h 273 19 = nI 1 ∧ hfi h 273 18 = nI f ∧ ∃ pl cf nc, SR h pl cf nc
def MRx (h h' : MH) : Prop := MRF h h' ∧ (∀ k, k ≠ 23 → k ≠ 29 → hfi h' 273 k = hfi h 273 k) ∧ hfj h' = hfj h
theorem MRS.X {h h' : MH} (s : MRS h h') : MRx h h' := ⟨s.F, s.2.2.2, s.1.2.2.2.2.2⟩
theorem MTk_x {h h' : MH} {T : TP} {q : Nat} (t : MTk h T q) (e1 : SHE h h') (e2 : hia h' 282 = hia h 282) (e3 : ∀ k, 13 ≤ k → k ≤ 16 → hfi h' 273 k = hfi h 273 k) (e4 : hfj h' 273 17 = hfj h 273 17) : MTk h' T q := by
  obtain ⟨s, hb, hq, h13, h14, h15, h16, h17⟩ := t
  obtain ⟨k1, k2, k3, -⟩ := e1
  refine ⟨?_, by rw [e2]; exact hb, hq, by rw [e3 _ (by omega) (by omega)]; exact h13, by rw [e3 _ (by omega) (by omega)]; exact h14, by rw [e3 _ (by omega) (by omega)]; exact h15, by rw [e3 _ (by omega) (by omega)]; exact h16, by rw [e4]; exact h17⟩
  unfold MaS at s ⊢
  rw [k1, k2, k3]
  exact s
theorem SR_x {h h' : MH} {pl : PLt} {cf : CFt} {nc : Nat} (s : SR h pl cf nc) (e1 : SHE h h') (e2 : ∀ a, 284 ≤ a → a ≤ 287 → hia h' a = hia h a) (e3 : hfi h' 273 23 = hfi h 273 23) (e4 : hfi h' 273 29 = hfi h 273 29) : SR h' pl cf nc := by
  obtain ⟨s1, s2, s3, s4, s5, s6, s7⟩ := s
  refine ⟨e1.M s1, by rw [e3]; exact s2, by rw [e4]; exact s3, ?_, ?_, s6, s7⟩
  · rw [e2 _ (by omega) (by omega), e2 _ (by omega) (by omega)]; exact s4
  · rw [e2 _ (by omega) (by omega), e2 _ (by omega) (by omega)]; exact s5
theorem MR_x {h h' : MH} {T : TP} {om q : Nat} {pl pl' : PLt} {cf cf' : CFt} {nc nc' k op : Nat} (r : MR h T om q pl cf nc k op) (x : MRx h h') (s : SR h' pl' cf' nc') : MR h' T om q pl' cf' nc' k op := by
  obtain ⟨r1, r2, r3, r4, r5, r6, r7, r8⟩ := r
  obtain ⟨⟨⟨-, -, -, f1, f2⟩, -, f3, -, -⟩, x2, x3⟩ := x
  exact ⟨MTk_x r1 f1 (f3 _ (by omega)) (fun k _ _ => x2 k (by omega) (by omega)) (by rw [x3]), s, by unfold WDM; rw [f2]; exact r3, by rw [x2 _ (by omega) (by omega)]; exact r4, by rw [x2 _ (by omega) (by omega)]; exact r5, by rw [x2 _ (by omega) (by omega)]; exact r6, by rw [x2 _ (by omega) (by omega)]; exact r7, by rw [x2 _ (by omega) (by omega)]; exact r8⟩
theorem MRF_f {h : MH} (f : Nat → Int32) (hf : ∀ k, k ≠ 14 → k ≠ 15 → k ≠ 16 → k ≠ 18 → k ≠ 19 → k ≠ 23 → k ≠ 26 → k ≠ 29 → k ≠ 30 → f k = hfi h 273 k) : MRF h (sFI h 273 f) :=
  ⟨⟨rfl, rfl, rfl, SHE.refl h, rfl⟩, fun a ha => ⟨hfi_nn _ _ ha, rfl⟩, fun _ _ => rfl, fun k a b c d e f' g i j => by rw [hfi_s]; exact hf k a b c d e f' g i j, fun _ _ => rfl⟩
/-- the next token -/
theorem MR_nx {h : MH} {T : TP} {om q : Nat} {pl : PLt} {cf : CFt} {nc k op : Nat} (r : MR h T om q pl cf nc k op) : MR (nxH h T q) T om (tBe T q) pl cf nc k op ∧ MRF h (nxH h T q) := by
  obtain ⟨r1, r2, r3, r4, r5, r6, r7, r8⟩ := r
  have N := (m_next1 0 q r1 (fun _ _ => True)).2
  have ef : hfi (nxH h T q) 273 = mkF (hfi h 273) T (tBe T q) := by unfold nxH; rw [MF_g.1]
  have eg : hfj (nxH h T q) 273 = mkG (hfj h 273) T (tBe T q) := by unfold nxH; rw [MF_g.2.1]
  have ek : ∀ k, k ≠ 14 → k ≠ 15 → k ≠ 16 → hfi (nxH h T q) 273 k = hfi h 273 k := fun k a b c => by rw [ef]; unfold mkF; rw [up1_n _ _ c, up1_n _ _ b, up1_n _ _ a]
  have eS : SHE h (nxH h T q) := SHE.refl h
  refine ⟨⟨N, SR_x r2 eS (fun _ _ _ => rfl) (ek _ (by omega) (by omega) (by omega)) (ek _ (by omega) (by omega) (by omega)), r3, (ek _ (by omega) (by omega) (by omega)).trans r4, (ek _ (by omega) (by omega) (by omega)).trans r5, (ek _ (by omega) (by omega) (by omega)).trans r6, (ek _ (by omega) (by omega) (by omega)).trans r7, (ek _ (by omega) (by omega) (by omega)).trans r8⟩, ⟨rfl, rfl, rfl, eS, rfl⟩, fun a ha => ⟨?_, ?_⟩, fun _ _ => rfl, fun k a b c _ _ _ _ _ _ => ek k a b c, fun k hk => by rw [eg]; exact up1_n _ _ hk⟩
  · exact hfi_nn h _ ha
  · exact up1_n (hfj h) _ ha
/-- a fault -/
theorem MR_bd {h : MH} {T : TP} {om q : Nat} {pl : PLt} {cf : CFt} {nc k op : Nat} (r : MR h T om q pl cf nc k op) : MEr (bdH h) (tAt T q) ∧ MRF h (bdH h) := by
  obtain ⟨r1, r2, r3, r4, r5, r6, r7, r8⟩ := r
  have ef : hfi (bdH h) 273 = up1 (up1 (hfi h 273) 19 (nI 1)) 18 (hfi h 273 14) := hfi_s _ _ _
  refine ⟨⟨by rw [ef, up1_n _ _ (by omega), up1_s], by rw [ef, up1_s]; exact r1.2.2.2.2.1, pl, cf, nc, SR_x r2 (SHE.refl h) (fun _ _ _ => rfl) (by rw [ef, up1_n _ _ (by omega), up1_n _ _ (by omega)]) (by rw [ef, up1_n _ _ (by omega), up1_n _ _ (by omega)])⟩, MRF_f _ (fun k _ _ _ a b _ _ _ _ => by rw [up1_n _ _ a, up1_n _ _ b])⟩
theorem MR_26 {h : MH} {T : TP} {om q : Nat} {pl : PLt} {cf : CFt} {nc k op : Nat} (r : MR h T om q pl cf nc k op) (k' : Nat) : MR (sFI h 273 (up1 (hfi h 273) 26 (nI k'))) T om q pl cf nc k' op ∧ MRF h (sFI h 273 (up1 (hfi h 273) 26 (nI k'))) := by
  obtain ⟨r1, r2, r3, r4, r5, r6, r7, r8⟩ := r
  have ek : ∀ k, k ≠ 26 → hfi (sFI h 273 (up1 (hfi h 273) 26 (nI k'))) 273 k = hfi h 273 k := fun k a => by rw [hfi_s, up1_n _ _ a]
  exact ⟨⟨MTk_x r1 (SHE.refl h) rfl (fun k _ _ => ek k (by omega)) rfl, SR_x r2 (SHE.refl h) (fun _ _ _ => rfl) (ek _ (by omega)) (ek _ (by omega)), r3, (ek _ (by omega)).trans r4, (ek _ (by omega)).trans r5, by rw [hfi_s, up1_s], (ek _ (by omega)).trans r7, (ek _ (by omega)).trans r8⟩, MRF_f _ (fun k _ _ _ _ _ _ a _ _ => by rw [up1_n _ _ a])⟩
theorem MR_30 {h : MH} {T : TP} {om q : Nat} {pl : PLt} {cf : CFt} {nc k op : Nat} (r : MR h T om q pl cf nc k op) (op' : Nat) : MR (sFI h 273 (up1 (hfi h 273) 30 (nI op'))) T om q pl cf nc k op' ∧ MRF h (sFI h 273 (up1 (hfi h 273) 30 (nI op'))) := by
  obtain ⟨r1, r2, r3, r4, r5, r6, r7, r8⟩ := r
  have ek : ∀ k, k ≠ 30 → hfi (sFI h 273 (up1 (hfi h 273) 30 (nI op'))) 273 k = hfi h 273 k := fun k a => by rw [hfi_s, up1_n _ _ a]
  exact ⟨⟨MTk_x r1 (SHE.refl h) rfl (fun k _ _ => ek k (by omega)) rfl, SR_x r2 (SHE.refl h) (fun _ _ _ => rfl) (ek _ (by omega)) (ek _ (by omega)), r3, (ek _ (by omega)).trans r4, (ek _ (by omega)).trans r5, (ek _ (by omega)).trans r6, by rw [hfi_s, up1_s], (ek _ (by omega)).trans r8⟩, MRF_f _ (fun k _ _ _ _ _ _ _ _ a => by rw [up1_n _ _ a])⟩
/-- the pile's top goes -/
theorem MR_pop {h : MH} {T : TP} {om q : Nat} {x : Nat × Nat} {pl : PLt} {cf : CFt} {nc k op : Nat} (r : MR h T om q (x :: pl) cf nc k op) : MR (sFI h 273 (up1 (hfi h 273) 29 (nI pl.length))) T om q pl cf nc k op ∧ MRF h (sFI h 273 (up1 (hfi h 273) 29 (nI pl.length))) := by
  have r' := r
  obtain ⟨r1, ⟨s1, s2, s3, s4, s5, s6, s7⟩, r3, r4, r5, r6, r7, r8⟩ := r
  have F : MRF h (sFI h 273 (up1 (hfi h 273) 29 (nI pl.length))) := MRF_f _ (fun k _ _ _ _ _ _ _ a _ => by rw [up1_n _ _ a])
  rw [List.length_cons] at s7
  refine ⟨MR_x r' ⟨F, fun k _ a => by rw [hfi_s, up1_n _ _ a], rfl⟩ ⟨s1, by rw [hfi_s, up1_n _ _ (by omega)]; exact s2, by rw [hfi_s, up1_s], s4, ?_, fun y hy => s6 y (List.mem_cons_of_mem _ hy), by omega⟩, F⟩
  obtain ⟨o, a⟩ := x
  exact s5.2.2
theorem SR_push {h : MH} {pl : PLt} {cf : CFt} {nc : Nat} (s : SR h pl cf nc) (o a : Nat) (h1 : 20 ≤ o) (h2 : o ≤ 32) (h3 : a ≤ 400) (h4 : o = 29 ∨ o = 30 → a < nc) (hn : nc + pl.length < 400) : SR (mpH h pl.length (nI o) (nI a)) ((o, a) :: pl) cf nc ∧ MRx h (mpH h pl.length (nI o) (nI a)) := by
  obtain ⟨s1, s2, s3, s4, s5, s6, s7⟩ := s
  have ef : hfi (mpH h pl.length (nI o) (nI a)) 273 = up1 (hfi h 273) 29 (nI (pl.length + 1)) := by unfold mpH; exact hfi_s _ _ _
  have e4 : hia (mpH h pl.length (nI o) (nI a)) 286 = up1 (hia h 286) pl.length (nI o) := by
    show hia (sIA (sIA h 286 (up1 (hia h 286) pl.length (nI o))) 287 (up1 (hia h 287) pl.length (nI a))) 286 = _
    rw [hia_n _ _ (by omega), hia_s]
  have e5 : hia (mpH h pl.length (nI o) (nI a)) 287 = up1 (hia h 287) pl.length (nI a) := by
    show hia (sIA (sIA h 286 (up1 (hia h 286) pl.length (nI o))) 287 (up1 (hia h 287) pl.length (nI a))) 287 = _
    rw [hia_s]
  have eo : ∀ b, b ≠ 286 → b ≠ 287 → hia (mpH h pl.length (nI o) (nI a)) b = hia h b := fun b h1 h2 => by
    show hia (sIA (sIA h 286 (up1 (hia h 286) pl.length (nI o))) 287 (up1 (hia h 287) pl.length (nI a))) b = _
    rw [hia_n _ _ h2, hia_n _ _ h1]
  have ek : ∀ k, k ≠ 29 → hfi (mpH h pl.length (nI o) (nI a)) 273 k = hfi h 273 k := fun k hk => by rw [ef, up1_n _ _ hk]
  refine ⟨⟨s1, (ek _ (by omega)).trans s2, by rw [ef, up1_s]; rfl, by rw [eo _ (by omega) (by omega), eo _ (by omega) (by omega)]; exact s4, ?_, fun y hy => ?_, by rw [List.length_cons]; omega⟩, ⟨⟨rfl, rfl, rfl, SHE.refl h, rfl⟩, fun b hb => ⟨by unfold mpH; exact hfi_nn _ _ hb, rfl⟩, fun b hb => eo b (by omega) (by omega), fun k _ _ _ _ _ _ _ i _ => ek k i, fun _ _ => rfl⟩, fun k _ hk => ek k hk, rfl⟩
  · rw [e4, e5]
    exact ⟨up1_s _ _ _, up1_s _ _ _, PLr_up s5 (Nat.le_refl _)⟩
  · rcases List.mem_cons.mp hy with rfl | hy
    · exact ⟨h1, h2, h3, h4⟩
    · exact s6 y hy
