theorem up1_c {α : Type} (f : Nat → α) {a b : Nat} (x y : α) (e : b < a) : up1 (up1 f a x) b y = up1 (up1 f b y) a x := by
  funext j; unfold up1
  by_cases c : j = a
  · subst c; rw [if_neg (by omega), if_pos rfl, if_pos rfl]
  · rw [if_neg c, if_neg c]
/-- the order of setters -/
theorem sIA_c (h : MH) {a b : Nat} (f g : Nat → Int32) (e : b < a) : sIA (sIA h a f) b g = sIA (sIA h b g) a f := by
  show (_, _, _, _, _, _, _, _, up1 (up1 (hia h) a f) b g, _, _) = (_, _, _, _, _, _, _, _, up1 (up1 (hia h) b g) a f, _, _)
  rw [up1_c _ _ _ e]
  rfl
theorem sJA_c (h : MH) {a b : Nat} (f g : Nat → Int64) (e : b < a) : sJA (sJA h a f) b g = sJA (sJA h b g) a f := by
  show (_, _, _, _, _, _, _, _, _, up1 (up1 (hja h) a f) b g, _) = (_, _, _, _, _, _, _, _, _, up1 (up1 (hja h) b g) a f, _)
  rw [up1_c _ _ _ e]
  rfl
theorem sFI_c (h : MH) {a b : Nat} (f g : Nat → Int32) (e : b < a) : sFI (sFI h a f) b g = sFI (sFI h b g) a f := by
  show (_, _, _, _, _, up1 (up1 (hfi h) a f) b g, _, _, _, _, _) = (_, _, _, _, _, up1 (up1 (hfi h) b g) a f, _, _, _, _, _)
  rw [up1_c _ _ _ e]
  rfl
theorem SM : (∀ (h : MH) (a b : Nat) (f : Nat → Int64) (g : Nat → Int32), sIA (sJA h a f) b g = sJA (sIA h b g) a f) ∧ (∀ (h : MH) (a b : Nat) (f : Nat → Int32) (g : Nat → Int32), sIA (sFI h a f) b g = sFI (sIA h b g) a f) ∧ (∀ (h : MH) (a b : Nat) (f : Nat → Int64) (g : Nat → Int32), sIA (sFJ h a f) b g = sFJ (sIA h b g) a f) ∧
    (∀ (h : MH) (a b : Nat) (f : Nat → Int32) (g : Nat → Int64), sJA (sFI h a f) b g = sFI (sJA h b g) a f) ∧ (∀ (h : MH) (a b : Nat) (f : Nat → Int64) (g : Nat → Int64), sJA (sFJ h a f) b g = sFJ (sJA h b g) a f) ∧ (∀ (h : MH) (a b : Nat) (f : Nat → Int64) (g : Nat → Int32), sFI (sFJ h a f) b g = sFJ (sFI h b g) a f) := ⟨fun _ _ _ _ _ => rfl, fun _ _ _ _ _ => rfl, fun _ _ _ _ _ => rfl, fun _ _ _ _ _ => rfl, fun _ _ _ _ _ => rfl, fun _ _ _ _ _ => rfl⟩
theorem hfi_s (h : MH) (a : Nat) (f : Nat → Int32) : hfi (sFI h a f) a = f := up1_s (hfi h) a f
/-! ===== what can be come back to ===== -/
theorem l_rem1 (d : Nat) (x : Int32) (Q : RT) (lm : Nat × Nat) : ∀ (m i : Nat) (h : MH), MoS h → i + m = 26235 → WP cd_Mo_remember (callD d) Q lm 11 [] [some (.ref 273), some (.int x), some (.int (nI i))] h = WP cd_Mo_remember (callD d) Q lm 40 [] [some (.ref 273), some (.int x), some (.int (nI 26235))] (sIA h 278 (shF (hia h 278) i 26235 1749))
  | 0, i, h, hM, hi => by
    obtain rfl : i = 26235 := by omega
    rw [shF_n _ _ _ _ (Nat.le_refl _), sIA_id, U_Mo_remember_11 (cm _)]
    simp (disch := omega) only [U_Mo_remember (cm _), SA, SB, SG, SV, leI, Nat.le_refl, true_implies, not_true_eq_false, false_implies, and_true]
  | m + 1, i, h, hM, hi => by
    obtain ⟨m1, m2, m3, m4⟩ := hM.row
    obtain ⟨u2, u3, u4, -⟩ := hM.und
    have hk7 : ¬ 26235 ≤ i := by omega
    have ih := l_rem1 d x Q lm m (i + 1) (sIA h 278 (up1 (hia h 278) i (hia h 278 (i + 1749)))) hM (by omega)
    rw [hia_s, shF_s _ _ _ _ (by omega) (by omega), SK.2.2.2.1] at ih
    rw [U_Mo_remember_11 (cm _)]
    simp (disch := omega) only [U_Mo_remember (cm _), SA, SB, SG, SV, SK, leI, hk7, nI_add, pk_mul, nI_clamp, in_eq, m1, m2, m3, m4, u2, u3, u4, Nat.reduceLeDiff, true_implies, not_true_eq_false, not_false_eq_true, false_implies, and_true, true_and, ih]
theorem l_rem2 (d : Nat) (x : Int32) (Q : RT) (lm : Nat × Nat) : ∀ (m i : Nat) (h : MH), MoS h → i + m = 15 → WP cd_Mo_remember (callD d) Q lm 42 [] [some (.ref 273), some (.int x), some (.int (nI i))] h = WP cd_Mo_remember (callD d) Q lm 68 [] [some (.ref 273), some (.int x), some (.int (nI 15))] (sIA h 279 (shF (hia h 279) i 15 1))
  | 0, i, h, hM, hi => by
    obtain rfl : i = 15 := by omega
    rw [shF_n _ _ _ _ (Nat.le_refl _), sIA_id, U_Mo_remember_42 (cm _)]
    simp (disch := omega) only [U_Mo_remember (cm _), SA, SB, SG, SV, leI, Nat.le_refl, true_implies, not_true_eq_false, false_implies, and_true]
  | m + 1, i, h, hM, hi => by
    obtain ⟨m1, m2, m3, m4⟩ := hM.row
    obtain ⟨u2, u3, u4, v2, v3, v4⟩ := hM.und
    have hk7 : ¬ 15 ≤ i := by omega
    have ih := l_rem2 d x Q lm m (i + 1) (sIA h 279 (up1 (hia h 279) i (hia h 279 (i + 1)))) hM (by omega)
    rw [hia_s, shF_s _ _ _ _ (by omega) (by omega), SK.2.2.2.1] at ih
    rw [U_Mo_remember_42 (cm _)]
    simp (disch := omega) only [U_Mo_remember (cm _), SA, SB, SG, SV, SK, leI, hk7, nI_add, pk_mul, nI_clamp, in_eq, m1, m2, m3, m4, v2, v3, v4, Nat.reduceLeDiff, true_implies, not_true_eq_false, not_false_eq_true, false_implies, and_true, true_and, ih]
theorem l_rem3 (d n : Nat) (hn : n ≤ 15) (x : Int32) (g : Nat → Int32) (Q : RT) (lm : Nat × Nat) : ∀ (m i : Nat) (h : MH), MoS h → hfi h 273 8 = nI n → (∀ j, 31482 ≤ j → hia h 278 j = g j) → i + m = 1749 → WP cd_Mo_remember (callD d) Q lm 80 [] [some (.ref 273), some (.int x), some (.int (nI i))] h = WP cd_Mo_remember (callD d) Q lm 118 [] [some (.ref 273), some (.int x), some (.int (nI 1749))] (sIA h 278 (cpyF (hia h 278) g (1749 * n) 31482 1749 i))
  | 0, i, h, hM, h8, hg, hi => by
    obtain rfl : i = 1749 := by omega
    rw [cpyF_n, sIA_id, U_Mo_remember_80 (cm _)]
    simp (disch := omega) only [U_Mo_remember (cm _), SA, SB, SG, SV, leI, Nat.le_refl, true_implies, not_true_eq_false, false_implies, and_true]
  | m + 1, i, h, hM, h8, hg, hi => by
    obtain ⟨m1, m2, m3, m4⟩ := hM.row
    obtain ⟨u2, u3, u4, v2, v3, v4⟩ := hM.und
    have hk7 : ¬ 1749 ≤ i := by omega
    have ih := l_rem3 d n hn x g Q lm m (i + 1) (sIA h 278 (up1 (hia h 278) (1749 * n + i) (g (31482 + i)))) hM h8 (fun j hj => by rw [hia_s, up1_n _ _ (by omega)]; exact hg j hj) (by omega)
    rw [hia_s, cpyF_s _ _ _ _ _ _ (by omega), SK.2.2.2.1] at ih
    rw [U_Mo_remember_80 (cm _)]
    simp (disch := omega) only [U_Mo_remember (cm _), SA, SB, SG, SV, SK, leI, hk7, nI_add, pk_mul, nI_clamp, in_eq, m1, m2, m3, m4, u2, u3, u4, h8, hg (31482 + i) (by omega), Nat.reduceLeDiff, true_implies, not_true_eq_false, not_false_eq_true, false_implies, and_true, true_and, ih]
/-- undos, sorts and their number behind an act that is kept -/
def rmU (u : Nat → Int32) (n : Nat) : Nat → Int32 := if n = 16 then cpyF (shF u 0 26235 1749) u (1749 * 15) 31482 1749 0 else cpyF u u (1749 * n) 31482 1749 0
def rmO (s : Nat → Int32) (n : Nat) (x : Int32) : Nat → Int32 := if n = 16 then up1 (shF s 0 15 1) 15 x else up1 s n x
def rmN (n : Nat) : Nat := if n = 16 then 16 else n + 1
set_option maxHeartbeats 1000000 in
theorem e_remember (d n : Nat) (hn : n ≤ 16) (x : Int32) {h : MH} (hM : MoS h) (h8 : hfi h 273 8 = nI n) (Q : RT) : callD (d + 1) 137 [.ref 273, .int x] h Q = Q none (sFI (sIA (sIA h 278 (rmU (hia h 278) n)) 279 (rmO (hia h 279) n x)) 273 (up1 (hfi h 273) 8 (nI (rmN n)))) := by
  obtain ⟨m1, m2, m3, m4⟩ := hM.row
  obtain ⟨u2, u3, u4, v2, v3, v4⟩ := hM.und
  rw [E_Mo_remember]
  unfold rmU rmO rmN
  by_cases c : n = 16
  · subst c
    rw [if_pos rfl, if_pos rfl, if_pos rfl]
    have a1 := l_rem1 d x Q (hcc h, hcu h) 26235 0 h hM rfl
    have a2 := fun u => l_rem2 d x Q (hcc h, hcu h) 15 0 (sIA h 278 u) hM rfl
    have a3 := l_rem3 d 15 (by omega) x (hia h 278) Q (hcc h, hcu h) 1749 0 (sFI (sIA (sIA h 278 (shF (hia h 278) 0 26235 1749)) 279 (shF (hia h 279) 0 15 1)) 273 (up1 (hfi h 273) 8 (nI 15))) hM (by rw [hfi_s, up1_s]) (fun j hj => by
      simp (disch := omega) only [SG, up1_s, up1_n]
      unfold shF
      rw [if_neg (by omega)]) rfl
    simp (disch := omega) only [SG, up1_s, up1_n] at a2 a3
    simp (disch := omega) only [↓a1, ↓a2, ↓a3, U_Mo_remember (cm _), SA, SB, SG, SV, SK, nI_add, pk_mul, pk_sub, nI_clamp, in_eq, m1, m2, m3, m4, u2, u3, u4, v2, v3, v4, h8, up1_s, up1_n, up1_up1, Nat.reduceLeDiff, Nat.reduceAdd, true_implies, not_true_eq_false, not_false_eq_true, false_implies, and_true, true_and]
    simp (disch := omega) only [SM, sIA_c, SK]
  · rw [if_neg c, if_neg c, if_neg c]
    have a3 := l_rem3 d n (by omega) x (hia h 278) Q (hcc h, hcu h) 1749 0 h hM h8 (fun j hj => rfl) rfl
    simp (disch := omega) only [↓a3, U_Mo_remember (cm _), SA, SB, SG, SV, SK, nI_add, pk_mul, nI_clamp, in_eq, eqI, c, m1, m2, m3, m4, u2, u3, u4, v2, v3, v4, h8, up1_s, up1_n, up1_up1, Nat.reduceLeDiff, true_implies, not_true_eq_false, not_false_eq_true, false_implies, and_true, true_and]
