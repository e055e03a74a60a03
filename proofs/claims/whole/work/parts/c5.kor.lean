/-! ===== what is kept ahead of orders and days, and given back ===== -/
theorem m_l_ko1 (d : Nat) {h : MH} (hM : MoS h) (Q : RT) (lm : Nat × Nat) (K : ∀ f, (∀ j, j < 27984 → f j = hia h 278 j) → WP cd_Mo_keepOrders (callD d) Q lm 35 [] [some (.ref 273), some (.int (nI 0))] (sIA h 280 f)) : ∀ (m i : Nat) (f : Nat → Int32), i + m = 27984 → (∀ j, j < i → f j = hia h 278 j) → WP cd_Mo_keepOrders (callD d) Q lm 8 [] [some (.ref 273), some (.int (nI i))] (sIA h 280 f)
  | 0, i, f, e, hf => by
    rw [U_Mo_keepOrders_8 (cm _)]
    simp (disch := omega) only [U_Mo_keepOrders (cm _), SA, SB, SC1, SC2, SG, SK, SV, leI, show 27984 ≤ i by omega, true_or, or_true, true_implies, not_true_eq_false, not_false_eq_true, false_implies, true_and, and_true]
    exact K f (fun j hj => hf j (by omega))
  | m + 1, i, f, e, hf => by
    have k8 := hM.1
    obtain ⟨u1, u2, u3⟩ := hM.a280
    obtain ⟨v1, v2, v3, -⟩ := hM.und
    have ih := m_l_ko1 d hM Q lm K m (i + 1) (up1 f i (hia h 278 i)) (by omega) (fun j hj => by
      by_cases c : j = i
      · subst c; rw [up1_s]
      · rw [up1_n _ _ c]; exact hf j (by omega))
    rw [U_Mo_keepOrders_8 (cm _)]
    simp (disch := omega) only [U_Mo_keepOrders (cm _), SA, SB, SC1, SC2, SG, SK, SV, k8, u1, u2, u3, v1, v2, v3, up1_s, up1_n, leI, show ¬ 27984 ≤ i by omega, nI_add, nI_clamp, in_eq, Nat.reduceLeDiff, true_or, or_true, true_implies, not_true_eq_false, not_false_eq_true, false_implies, true_and, and_true]
    exact ih
theorem m_l_ko2 (d : Nat) {h : MH} (hM : MoS h) (Q : RT) (lm : Nat × Nat) (K : ∀ f, (∀ j, j < 16 → f j = hia h 279 j) → Q (some (.int (hfi h 273 8))) (sIA h 281 f)) : ∀ (m i : Nat) (f : Nat → Int32), i + m = 16 → (∀ j, j < i → f j = hia h 279 j) → WP cd_Mo_keepOrders (callD d) Q lm 35 [] [some (.ref 273), some (.int (nI i))] (sIA h 281 f)
  | 0, i, f, e, hf => by
    have k8 := hM.1
    have Y := K f (fun j hj => hf j (by omega))
    rw [U_Mo_keepOrders_35 (cm _)]
    simp (disch := omega) only [U_Mo_keepOrders (cm _), SA, SB, SC1, SC2, SG, SK, SV, k8, leI, show 16 ≤ i by omega, true_or, or_true, true_implies, not_true_eq_false, not_false_eq_true, false_implies, true_and, and_true]
    exact Y
  | m + 1, i, f, e, hf => by
    have k8 := hM.1
    obtain ⟨u1, u2, u3⟩ := hM.a281
    obtain ⟨v1, v2, v3⟩ := hM.a279
    have ih := m_l_ko2 d hM Q lm K m (i + 1) (up1 f i (hia h 279 i)) (by omega) (fun j hj => by
      by_cases c : j = i
      · subst c; rw [up1_s]
      · rw [up1_n _ _ c]; exact hf j (by omega))
    rw [U_Mo_keepOrders_35 (cm _)]
    simp (disch := omega) only [U_Mo_keepOrders (cm _), SA, SB, SC1, SC2, SG, SK, SV, k8, u1, u2, u3, v1, v2, v3, up1_s, up1_n, leI, show ¬ 16 ≤ i by omega, nI_add, nI_clamp, in_eq, Nat.reduceLeDiff, true_or, or_true, true_implies, not_true_eq_false, not_false_eq_true, false_implies, true_and, and_true]
    exact ih
def KOf (h h' : MH) : Prop := ((hsz h' = hsz h ∧ hcc h' = hcc h ∧ hcu h' = hcu h ∧ SHE h h') ∧ hja h' = hja h) ∧ hfi h' = hfi h ∧ (∀ a, a ≠ 278 → a ≠ 280 → a ≠ 281 → hia h' a = hia h a) ∧ (∀ x, x < 29733 → hia h' 278 x = hia h 278 x) ∧ (∀ j, j < 1749 → hia h' 278 (29733 + j) = hia h 275 (5 + j)) ∧ (∀ j, j < 27984 → hia h' 280 j = hia h 278 j) ∧ ∀ j, j < 16 → hia h' 281 j = hia h 279 j
theorem m_keepOrders (d : Nat) {h : MH} (hM : MoS h) (Q : RT) (K : ∀ h', KOf h h' → Q (some (.int (hfi h 273 8))) h') : callD (d + 2) 241 [.ref 273] h Q := by
  have k8 := hM.1
  have KA := fun Q => e_keepAll d 17 (by omega) hM Q
  obtain ⟨-, a2, -, a4, a5⟩ := ia_g h 278 (cpyF (hia h 278) (hia h 275) (1749 * 17) 5 1749 0)
  have as := she_ia h 278 (cpyF (hia h 278) (hia h 275) (1749 * 17) 5 1749 0)
  have lo : ∀ x, x < 29733 → cpyF (hia h 278) (hia h 275) (1749 * 17) 5 1749 0 x = hia h 278 x := fun x hx => by unfold cpyF; rw [if_neg (by omega)]
  have hi : ∀ j, j < 1749 → cpyF (hia h 278) (hia h 275) (1749 * 17) 5 1749 0 (29733 + j) = hia h 275 (5 + j) := fun j hj => by unfold cpyF; rw [if_pos (by omega), show 5 + (29733 + j - 1749 * 17) = 5 + j by omega]
  rw [← a4] at lo hi
  generalize sIA h 278 (cpyF (hia h 278) (hia h 275) (1749 * 17) 5 1749 0) = h1 at *
  have M1 := as.1.2.2.2.M hM
  rw [E_Mo_keepOrders]
  simp (disch := omega) only [U_Mo_keepOrders (cm _), SA, SB, SC1, SC2, SG, SK, SV, k8, KA, true_or, or_true, true_implies, not_true_eq_false, not_false_eq_true, false_implies, true_and, and_true]
  have L1 := fun lm K => m_l_ko1 (d + 1) M1 Q lm K 27984 0 (hia h1 280) (by omega) (fun j hj => absurd hj (Nat.not_lt_zero j))
  rw [sIA_id] at L1
  refine L1 _ (fun f hf => ?_)
  clear L1
  obtain ⟨-, b2, -, b4, b5⟩ := ia_g h1 280 f
  have bs := she_ia h1 280 f
  generalize sIA h1 280 f = h2 at *
  have M2 := bs.1.2.2.2.M M1
  have L2 := fun lm K => m_l_ko2 (d + 1) M2 Q lm K 16 0 (hia h2 281) (by omega) (fun j hj => absurd hj (Nat.not_lt_zero j))
  rw [sIA_id] at L2
  refine L2 _ (fun f2 hf2 => ?_)
  clear L2
  obtain ⟨-, c2, -, c4, c5⟩ := ia_g h2 281 f2
  have cs := she_ia h2 281 f2
  generalize sIA h2 281 f2 = h3 at *
  have Y := K h3 ⟨she_t (she_t as bs) cs, by rw [c2, b2, a2], fun a y1 y2 y3 => by rw [c5 a y3, b5 a y2, a5 a y1], fun x hx => by rw [c5 278 (by omega), b5 278 (by omega), lo x hx], fun j hj => by rw [c5 278 (by omega), b5 278 (by omega), hi j hj], fun j hj => by rw [c5 280 (by omega), b4, hf j hj, lo j (by omega)], fun j hj => by rw [c4, hf2 j hj, b5 279 (by omega), a5 279 (by omega)]⟩
  have e8 : hfi h2 273 8 = hfi h 273 8 := by rw [b2, a2]
  rw [e8]
  exact Y
theorem m_l_gb1 (d : Nat) {h : MH} (hM : MoS h) (had : Int32) (Q : RT) (lm : Nat × Nat) (K : ∀ f, (∀ j, j < 27984 → f j = hia h 280 j) → WP cd_Mo_giveBack (callD d) Q lm 35 [] [some (.ref 273), some (.int had), some (.int (nI 0))] (sIA h 278 f)) : ∀ (m i : Nat) (f : Nat → Int32), i + m = 27984 → (∀ j, j < i → f j = hia h 280 j) → WP cd_Mo_giveBack (callD d) Q lm 8 [] [some (.ref 273), some (.int had), some (.int (nI i))] (sIA h 278 f)
  | 0, i, f, e, hf => by
    rw [U_Mo_giveBack_8 (cm _)]
    simp (disch := omega) only [U_Mo_giveBack (cm _), SA, SB, SC1, SC2, SG, SK, SV, leI, show 27984 ≤ i by omega, true_or, or_true, true_implies, not_true_eq_false, not_false_eq_true, false_implies, true_and, and_true]
    exact K f (fun j hj => hf j (by omega))
  | m + 1, i, f, e, hf => by
    have k8 := hM.1
    obtain ⟨u1, u2, u3⟩ := hM.a280
    obtain ⟨v1, v2, v3, -⟩ := hM.und
    have ih := m_l_gb1 d hM had Q lm K m (i + 1) (up1 f i (hia h 280 i)) (by omega) (fun j hj => by
      by_cases c : j = i
      · subst c; rw [up1_s]
      · rw [up1_n _ _ c]; exact hf j (by omega))
    rw [U_Mo_giveBack_8 (cm _)]
    simp (disch := omega) only [U_Mo_giveBack (cm _), SA, SB, SC1, SC2, SG, SK, SV, k8, u1, u2, u3, v1, v2, v3, up1_s, up1_n, leI, show ¬ 27984 ≤ i by omega, nI_add, nI_clamp, in_eq, Nat.reduceLeDiff, true_or, or_true, true_implies, not_true_eq_false, not_false_eq_true, false_implies, true_and, and_true]
    exact ih
theorem m_l_gb2 (d : Nat) {h : MH} (hM : MoS h) (had : Int32) (Q : RT) (lm : Nat × Nat) (K : ∀ f, (∀ j, j < 16 → f j = hia h 281 j) → Q none (sFI (sIA h 279 f) 273 (up1 (hfi h 273) 8 had))) : ∀ (m i : Nat) (f : Nat → Int32), i + m = 16 → (∀ j, j < i → f j = hia h 281 j) → WP cd_Mo_giveBack (callD d) Q lm 35 [] [some (.ref 273), some (.int had), some (.int (nI i))] (sIA h 279 f)
  | 0, i, f, e, hf => by
    have k8 := hM.1
    have Y := K f (fun j hj => hf j (by omega))
    rw [U_Mo_giveBack_35 (cm _)]
    simp (disch := omega) only [U_Mo_giveBack (cm _), SA, SB, SC1, SC2, SG, SK, SV, k8, leI, show 16 ≤ i by omega, Nat.reduceLeDiff, true_or, or_true, true_implies, not_true_eq_false, not_false_eq_true, false_implies, true_and, and_true]
    exact Y
  | m + 1, i, f, e, hf => by
    have k8 := hM.1
    obtain ⟨u1, u2, u3⟩ := hM.a281
    obtain ⟨v1, v2, v3⟩ := hM.a279
    have ih := m_l_gb2 d hM had Q lm K m (i + 1) (up1 f i (hia h 281 i)) (by omega) (fun j hj => by
      by_cases c : j = i
      · subst c; rw [up1_s]
      · rw [up1_n _ _ c]; exact hf j (by omega))
    rw [U_Mo_giveBack_35 (cm _)]
    simp (disch := omega) only [U_Mo_giveBack (cm _), SA, SB, SC1, SC2, SG, SK, SV, k8, u1, u2, u3, v1, v2, v3, up1_s, up1_n, leI, show ¬ 16 ≤ i by omega, nI_add, nI_clamp, in_eq, Nat.reduceLeDiff, true_or, or_true, true_implies, not_true_eq_false, not_false_eq_true, false_implies, true_and, and_true]
    exact ih
def GBf (h h' : MH) (had : Int32) : Prop := ((hsz h' = hsz h ∧ hcc h' = hcc h ∧ hcu h' = hcu h ∧ SHE h h') ∧ hja h' = hja h) ∧ (∀ a, a ≠ 273 → hfi h' a = hfi h a) ∧ hfi h' 273 = up1 (hfi h 273) 8 had ∧ (∀ a, a ≠ 275 → a ≠ 278 → a ≠ 279 → hia h' a = hia h a) ∧ (∀ j, 5 ≤ j → j < 1754 → hia h' 275 j = hia h 278 (29733 + (j - 5))) ∧ (∀ j, j < 5 ∨ 1754 ≤ j → hia h' 275 j = hia h 275 j) ∧ (∀ x, x < 27984 → hia h' 278 x = hia h 280 x) ∧ ∀ j, j < 16 → hia h' 279 j = hia h 281 j
theorem m_giveBack (d : Nat) (had : Int32) {h : MH} (hM : MoS h) (Q : RT) (K : ∀ h', GBf h h' had → Q none h') : callD (d + 2) 242 [.ref 273, .int had] h Q := by
  have k8 := hM.1
  have PB := fun Q => e_putBack d 17 (by omega) hM Q
  obtain ⟨-, a2, -, a4, a5⟩ := ia_g h 275 (cpyF (hia h 275) (hia h 278) 5 (1749 * 17) 1749 0)
  have as := she_ia h 275 (cpyF (hia h 275) (hia h 278) 5 (1749 * 17) 1749 0)
  have lo : ∀ j, j < 5 ∨ 1754 ≤ j → cpyF (hia h 275) (hia h 278) 5 (1749 * 17) 1749 0 j = hia h 275 j := fun x hx => by unfold cpyF; rw [if_neg (by omega)]
  have hi : ∀ j, 5 ≤ j → j < 1754 → cpyF (hia h 275) (hia h 278) 5 (1749 * 17) 1749 0 j = hia h 278 (29733 + (j - 5)) := fun j h1 h2 => by unfold cpyF; rw [if_pos (by omega)]
  rw [← a4] at lo hi
  generalize sIA h 275 (cpyF (hia h 275) (hia h 278) 5 (1749 * 17) 1749 0) = h1 at *
  have M1 := as.1.2.2.2.M hM
  rw [E_Mo_giveBack]
  simp (disch := omega) only [U_Mo_giveBack (cm _), SA, SB, SC1, SC2, SG, SK, SV, k8, PB, true_or, or_true, true_implies, not_true_eq_false, not_false_eq_true, false_implies, true_and, and_true]
  have L1 := fun lm K => m_l_gb1 (d + 1) M1 had Q lm K 27984 0 (hia h1 278) (by omega) (fun j hj => absurd hj (Nat.not_lt_zero j))
  rw [sIA_id] at L1
  refine L1 _ (fun f hf => ?_)
  clear L1
  obtain ⟨-, b2, -, b4, b5⟩ := ia_g h1 278 f
  have bs := she_ia h1 278 f
  generalize sIA h1 278 f = h2 at *
  have M2 := bs.1.2.2.2.M M1
  have L2 := fun lm K => m_l_gb2 (d + 1) M2 had Q lm K 16 0 (hia h2 279) (by omega) (fun j hj => absurd hj (Nat.not_lt_zero j))
  rw [sIA_id] at L2
  refine L2 _ (fun f2 hf2 => ?_)
  clear L2
  obtain ⟨-, c2, -, c4, c5⟩ := ia_g h2 279 f2
  have cs := she_ia h2 279 f2
  generalize sIA h2 279 f2 = h3 at *
  obtain ⟨-, e2, -, e4, e5⟩ := fi_g h3 273 (up1 (hfi h2 273) 8 had)
  have es := she_fi h3 273 (up1 (hfi h2 273) 8 had)
  generalize sFI h3 273 (up1 (hfi h2 273) 8 had) = h4 at *
  exact K h4 ⟨she_t (she_t (she_t as bs) cs) es, fun a y => by rw [e5 a y, c2, b2, a2], by rw [e4, b2, a2], fun a y1 y2 y3 => by rw [e2, c5 a y3, b5 a y2, a5 a y1], fun j y1 y2 => by rw [e2, c5 275 (by omega), b5 275 (by omega), hi j y1 y2], fun j hj => by rw [e2, c5 275 (by omega), b5 275 (by omega), lo j hj], fun x hx => by rw [e2, c5 278 (by omega), b4, hf x hx, a5 280 (by omega)], fun j hj => by rw [e2, c4, hf2 j hj, b5 281 (by omega), a5 281 (by omega)]⟩
theorem rmU_17 {u : Nat → Int32} {p : RW} {n x : Nat} (hn : n ≤ 16) (h1 : 27984 ≤ x) (h2 : x < 31482) : rmU (ka u p) n x = u x := by
  unfold rmU
  split
  · unfold cpyF
    rw [if_neg (by omega)]
    unfold shF
    rw [if_neg (by omega), ka_lo (by omega)]
  · unfold cpyF
    rw [if_neg (by omega), ka_lo (by omega)]
theorem MaF.u {h h3 : MH} {p q : RW} {n kd : Nat} {kept : Prop} (hn : n ≤ 16) (m : MaF h h3 p q n kd kept) : ∀ x, 27984 ≤ x → x < 31482 → hia h3 278 x = hia h 278 x := fun x h1 h2 => by
  by_cases c : kept
  · rw [(m.2.2.2.2.2.2.1 c).1]; exact rmU_17 hn h1 h2
  · exact (m.2.2.2.2.2.2.2.1 c).1 x h2
theorem RgV_k2 {h h' : MH} {nx n : Nat} (e1 : hfi h' 40 = hfi h 40) (e2 : hfi h' 273 8 = hfi h 273 8) (eo : ∀ i, i < 17 → i ≠ nx → hfi h' (43 + 10 * i) = hfi h (43 + 10 * i) ∧ ∀ a, 43 + 10 * i < a → a ≤ 43 + 10 * i + 9 → hia h' a = hia h a) (e42 : hia h' 42 = hia h 42) (e5 : ∀ j, j < 16 → hia h' 279 j = hia h 279 j) (e6 : ∀ x, x < 27984 → hia h' 278 x = hia h 278 x) (r : RgV h nx n) : RgV h' nx n := by
  obtain ⟨r1, r2, r3, r4, r5, r6⟩ := r
  refine ⟨r1, r2, by rw [e1]; exact r3, by rw [e1]; exact r4, e2.trans r5, fun j hj => ?_⟩
  obtain ⟨x1, x2, x3, x4⟩ := r6 j hj
  have ne : rgP nx n j ≠ nx := by unfold rgP; omega
  have c := uR_c (j := j) (by omega) e6
  obtain ⟨o1, o2⟩ := eo _ (rgP_lt nx n j) ne
  exact ⟨NeV_a o1 o2 (NeV_c c x2.q x1), IV_c c x2, by rw [e42, e5 j (by omega)]; exact x3, by rw [e5 j (by omega)]; exact x4⟩
