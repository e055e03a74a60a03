/-! ===== the program's copies ===== -/
theorem x_min (d a b : Nat) (ha : a < 2 ^ 31) (hb : b < 2 ^ 31) (h : MH) (Q : RT) : callD (d + 1) 251 [.int (nI a), .int (nI b)] h Q = Q (some (.int (nI (if a ≤ b then a else b)))) h := by
  rw [E_J_min]
  by_cases c : a ≤ b
  · rw [if_pos c]
    simp (disch := omega) only [U_J_min (cm _), SA, SB, SG, SV, leI, ltI, c, show ¬ b < a by omega, true_implies, not_true_eq_false, not_false_eq_true, false_implies, true_and, and_true]
  · rw [if_neg c]
    simp (disch := omega) only [U_J_min (cm _), SA, SB, SG, SV, leI, ltI, c, show b < a by omega, true_implies, not_true_eq_false, not_false_eq_true, false_implies, true_and, and_true]
/-- one more cell, at the end -/
def AL1 (h h' : MH) (kd n c u : Nat) : Prop := (hsz h' = hsz h + 1 ∧ hcc h' = hcc h + c ∧ hcu h' = hcu h + u) ∧ (∀ x, x ≠ hsz h → (hkd h' x = hkd h x ∧ hln h' x = hln h x ∧ hfi h' x = hfi h x ∧ hfj h' x = hfj h x) ∧ hfr h' x = hfr h x ∧ hia h' x = hia h x ∧ hja h' x = hja h x ∧ hra h' x = hra h x) ∧ hkd h' (hsz h) = kd ∧ hln h' (hsz h) = n
theorem AL1_c {h : MH} {n u : Nat} (F : Nat → Int32) : AL1 h (sCC (sIA (hnew h 20 n) (hsz h) F) (hcc h + 1) (hcu h + u)) 20 n 1 u := by
  refine ⟨⟨rfl, rfl, rfl⟩, fun x hx => ⟨⟨up1_n _ _ hx, up1_n _ _ hx, up1_n _ _ hx, up1_n _ _ hx⟩, up1_n _ _ hx, ?_, up1_n _ _ hx, up1_n _ _ hx⟩, up1_s _ _ _, up1_s _ _ _⟩
  show up1 (up1 (hia h) (hsz h) (fun _ => 0)) (hsz h) F x = hia h x
  rw [up1_n _ _ hx, up1_n _ _ hx]
theorem x_copyOf (d a ln n : Nat) (hl : ln ≤ 448) (hn : n ≤ ln) {h : MH} (ha : 24 ≤ a) (hsa : a < hsz h) (hk : hkd h a = 20) (hL : hln h a = ln) (Q : RT) (K : ∀ h', AL1 h h' 20 n 1 448 → (∀ i, i < n → hia h' (hsz h) i = hia h a i) → Q (some (.ref (hsz h))) h') : callD (d + 2) 256 [.ref a, .int (nI n)] h Q := by
  rw [E_J_copyOf]
  have na : ¬ a = hsz h := by omega
  have n24 : 24 ≤ hsz h := by omega
  by_cases c : n = ln
  · subst c
    have Y := K (sCC (sIA (hnew h 20 n) (hsz h) (hia h a)) (hcc h + 1) (hcu h + 448)) (AL1_c _) (fun i _ => congrFun (up1_s _ _ _) i)
    simp (disch := omega) only [U_J_copyOf (cm _), SA, SB, SC1, SC2, SG, SV, hk, hL, ha, n24, eqI, up1_s, up1_n, Nat.le_refl, Nat.add_le_add_iff_left, hl, Nat.reduceLeDiff, true_implies, not_true_eq_false, not_false_eq_true, false_implies, true_and, and_true]
    exact Y
  · have MN := fun h Q => x_min d ln n (by omega) (by omega) h Q
    rw [if_neg (by omega)] at MN
    have Y := K (sCC (sIA (hnew h 20 n) (hsz h) (va_cpy (hia h a) (fun _ => 0) 0 0 n)) (hcc h + 1) (hcu h + 448)) (AL1_c _) (fun i hi => by
      show up1 (up1 (hia h) (hsz h) (fun _ => 0)) (hsz h) (va_cpy (hia h a) (fun _ => 0) 0 0 n) (hsz h) i = _
      rw [up1_s]
      unfold va_cpy
      rw [if_pos (by omega), Nat.sub_zero, Nat.zero_add])
    have g1 : ∀ n', (nI n).toNatClampNeg = n' → n' ≤ 40000 := fun n' e => by rw [nI_clamp (by omega)] at e; omega
    simp (disch := omega) only [U_J_copyOf (cm _), SA, SB, SC1, SC2, SG, SV, MN, hk, hL, ha, n24, eqI, c, ltI, nI_clamp, up1_s, up1_n, Nat.le_refl, Nat.add_le_add_iff_left, Nat.zero_add, Nat.not_lt_zero, hl, hn, show n ≤ 40000 by omega, show n ≤ 448 by omega, Nat.reduceLeDiff, true_implies, not_true_eq_false, not_false_eq_true, false_implies, true_and, and_true]
    exact Y
