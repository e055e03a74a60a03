theorem x_lt (d : Nat) {h : MH} {T : TP} (s : TaS h) (hb : TB (hia h 215) T) (Q : RT) (lm : Nat × Nat) : ∀ (m i : Nat) (g : Nat → Int32), g 1 = nI T.2 → g 3 = nI i → i + m = T.2 → WP cd_Ta_advances (callD (d + 1)) Q lm 98 [] [some (.ref 214)] (sFI h 214 g) = Q none (sFI h 214 (up1 g 3 (nI (skp cL T.1 m i))))
  | 0, i, g, g1, g3, hi => by
    unfold TaS at s
    have n4 := hb.1
    rw [show up1 g 3 (nI (skp cL T.1 0 i)) = g from up1_same g3, U_Ta_advances_98 (cm _)]
    simp (disch := omega) only [U_Ta_advances (cm _), SA, SB, SG, SV, s, g1, g3, up1_s, leI, show T.2 ≤ i by omega, true_implies, not_true_eq_false, not_false_eq_true, false_implies, true_and, and_true]
  | m + 1, i, g, g1, g3, hi => by
    have s' := s
    unfold TaS at s
    have n4 := hb.1
    obtain ⟨b1, b2⟩ := hb.2 i (by omega)
    have IL := fun h Q => xt_isLetter d (T.1 i) b2 h Q
    rw [U_Ta_advances_98 (cm _)]
    by_cases c : cL (T.1 i) = true
    · simp only [b01_t c] at IL
      have ih := x_lt d s' hb Q lm m (i + 1) (up1 g 3 (nI (i + 1))) (by rw [up1_n _ _ (by omega)]; exact g1) (up1_s _ _ _) (by omega)
      rw [up1_up1] at ih
      rw [show skp cL T.1 (m + 1) i = skp cL T.1 m (i + 1) from if_pos c, ← ih]
      simp (disch := omega) only [U_Ta_advances (cm _), SA, SB, SC1, SC2, SG, SV, SK, s, g1, g3, b1, IL, up1_s, leI, show ¬ T.2 ≤ i by omega, eqI, Nat.one_ne_zero, nI_add, nI_clamp, in_eq, true_implies, not_true_eq_false, not_false_eq_true, false_implies, true_and, and_true]
    · simp only [b01_f c] at IL
      rw [show skp cL T.1 (m + 1) i = i from if_neg c, show up1 g 3 (nI i) = g from up1_same g3]
      simp (disch := omega) only [U_Ta_advances (cm _), SA, SB, SC1, SC2, SG, SV, SK, s, g1, g3, b1, IL, up1_s, leI, show ¬ T.2 ≤ i by omega, nI_add, nI_clamp, in_eq, true_implies, not_true_eq_false, not_false_eq_true, false_implies, true_and, and_true]
theorem x_dg (d a : Nat) {h : MH} {T : TP} (s : TaS h) (hb : TB (hia h 215) T) (Q : RT) (lm : Nat × Nat) : ∀ (m i : Nat) (g : Nat → Int32), g 1 = nI T.2 → g 3 = nI i → g 5 = nI (dvx T.1 a (i - a)) → a ≤ i → i + m = T.2 → WP cd_Ta_advances (callD (d + 1)) Q lm 157 [] [some (.ref 214)] (sFI h 214 g) = Q none (sFI h 214 (up1 (up1 g 3 (nI (skp cD T.1 m i))) 5 (nI (dvx T.1 a (skp cD T.1 m i - a)))))
  | 0, i, g, g1, g3, g5, ha, hi => by
    unfold TaS at s
    have n4 := hb.1
    rw [show skp cD T.1 0 i = i from rfl, up1_same g3, up1_same g5, U_Ta_advances_157 (cm _)]
    simp (disch := omega) only [U_Ta_advances (cm _), SA, SB, SG, SV, s, g1, g3, up1_s, leI, show T.2 ≤ i by omega, true_implies, not_true_eq_false, not_false_eq_true, false_implies, true_and, and_true]
  | m + 1, i, g, g1, g3, g5, ha, hi => by
    have s' := s
    unfold TaS at s
    have n4 := hb.1
    obtain ⟨b1, b2⟩ := hb.2 i (by omega)
    have IL := fun h Q => xt_isDigit d (T.1 i) b2 h Q
    rw [U_Ta_advances_157 (cm _)]
    by_cases c : cD (T.1 i) = true
    · simp only [b01_t c] at IL
      have c9 : 48 ≤ T.1 i ∧ T.1 i ≤ 57 := by unfold cD at c; simpa using c
      have l9 := dvx_le T.1 a (i - a)
      have e1 : dvx T.1 a (i + 1 - a) = if dvx T.1 a (i - a) * 10 + (T.1 i - 48) < 10000 then dvx T.1 a (i - a) * 10 + (T.1 i - 48) else 10000 := by
        rw [show i + 1 - a = (i - a) + 1 by omega]
        show (if dvx T.1 a (i - a) * 10 + (T.1 (a + (i - a)) - 48) < 10000 then _ else _) = _
        rw [show a + (i - a) = i by omega]
      have e2 : (if dvx T.1 a (i - a) * 10 + T.1 i - 48 < 10000 then nI (dvx T.1 a (i - a) * 10 + T.1 i - 48) else nI 10000) = nI (dvx T.1 a (i + 1 - a)) := by
        rw [e1, show dvx T.1 a (i - a) * 10 + T.1 i - 48 = dvx T.1 a (i - a) * 10 + (T.1 i - 48) by omega]
        split <;> rfl
      have ih := x_dg d a s' hb Q lm m (i + 1) (up1 (up1 g 5 (nI (dvx T.1 a (i + 1 - a)))) 3 (nI (i + 1))) (by rw [up1_n _ _ (by omega), up1_n _ _ (by omega)]; exact g1) (up1_s _ _ _) (by rw [up1_n _ _ (by omega), up1_s]) (by omega) (by omega)
      simp (disch := omega) only [up1_up1, up1_c] at ih
      rw [show skp cD T.1 (m + 1) i = skp cD T.1 m (i + 1) from if_pos c, ← ih]
      simp (disch := omega) only [U_Ta_advances (cm _), SA, SB, SC1, SC2, SG, SV, SK, s, g1, g3, g5, b1, IL, e_min, e2, ltI, up1_s, up1_n, up1_up1, up1_c, leI, show ¬ T.2 ≤ i by omega, eqI, Nat.one_ne_zero, pk_mul, pk_sub, nI_add, nI_clamp, in_eq, true_implies, not_true_eq_false, not_false_eq_true, false_implies, true_and, and_true]
    · simp only [b01_f c] at IL
      rw [show skp cD T.1 (m + 1) i = i from if_neg c, up1_same g3, up1_same g5]
      simp (disch := omega) only [U_Ta_advances (cm _), SA, SB, SC1, SC2, SG, SV, SK, s, g1, g3, b1, IL, up1_s, leI, show ¬ T.2 ≤ i by omega, nI_add, nI_clamp, in_eq, true_implies, not_true_eq_false, not_false_eq_true, false_implies, true_and, and_true]
/-- the token that stands behind q -/
def tkF (g : Nat → Int32) (T : TP) (q : Nat) : Nat → Int32 := up1 (up1 (up1 (up1 g 2 (nI (tAt T q))) 3 (nI (tBe T q))) 4 (nI (tTy T q))) 5 (nI (nmX T q))
theorem x_advances (d q : Nat) {h : MH} {T : TP} (s : TaS h) (hb : TB (hia h 215) T) (hq : q ≤ T.2) (h1 : hfi h 214 1 = nI T.2) (h3 : hfi h 214 3 = nI q) (Q : RT) : callD (d + 2) 67 [.ref 214] h Q = Q none (sFI h 214 (tkF (hfi h 214) T q)) := by
  have s' := s
  unfold TaS at s
  have n4 := hb.1
  have hA := tAt_N T hq
  have P := x_sp (d + 1) s' hb Q (hcc h, hcu h) (T.2 - q) q (up1 (hfi h 214) 2 (nI q)) (by rw [up1_n _ _ (by omega)]; exact h1) (up1_s _ _ _) (by omega)
  rw [up1_up1] at P
  rw [E_Ta_advances]
  simp (disch := omega) only [U_Ta_advances (cm _), SA, SB, SG, SV, SK, s, h3, true_and]
  rw [P]
  rw [show skp cS T.1 (T.2 - q) q = tAt T q from rfl]
  unfold tkF nmX
  by_cases c0 : tAt T q < T.2
  · obtain ⟨b1, b2⟩ := hb.2 _ c0
    by_cases cl : cL (T.1 (tAt T q)) = true
    · have ty : tTy T q = 1 := by unfold tTy; rw [if_pos c0, if_pos cl]
      have be : tBe T q = skp cL T.1 (T.2 - tAt T q) (tAt T q) := by unfold tBe; rw [if_pos ty]
      have IL := fun h Q => xt_isLetter d (T.1 (tAt T q)) b2 h Q
      simp only [b01_t cl] at IL
      have L := x_lt d s' hb Q (hcc h, hcu h) (T.2 - tAt T q) (tAt T q) (up1 (up1 (up1 (up1 (hfi h 214) 2 (nI (tAt T q))) 3 (nI (tAt T q))) 5 (nI 0)) 4 (nI 1)) (by simp (disch := omega) only [up1_n]; exact h1) (by simp (disch := omega) only [up1_n, up1_s]) (by omega)
      rw [ty, if_neg (by omega), be]
      simp (disch := omega) only [U_Ta_advances (cm _), SA, SB, SC1, SC2, SG, SV, SK, s, h1, b1, IL, up1_s, up1_n, ltI, c0, eqI, Nat.one_ne_zero, nI_clamp, in_eq, true_implies, not_true_eq_false, not_false_eq_true, false_implies, true_and, and_true]
      rw [L]
      congr 2
      funext j
      unfold up1
      by_cases j2 : j = 2 <;> by_cases j3 : j = 3 <;> by_cases j4 : j = 4 <;> by_cases j5 : j = 5 <;> simp [j2, j3, j4, j5] <;> omega
    · by_cases cd : cD (T.1 (tAt T q)) = true
      · have ty : tTy T q = 2 := by unfold tTy; rw [if_pos c0, if_neg cl, if_pos cd]
        have be : tBe T q = skp cD T.1 (T.2 - tAt T q) (tAt T q) := by unfold tBe; rw [if_neg (by omega), if_pos ty]
        have IL := fun h Q => xt_isLetter d (T.1 (tAt T q)) b2 h Q
        simp only [b01_f cl] at IL
        have ID := fun h Q => xt_isDigit d (T.1 (tAt T q)) b2 h Q
        simp only [b01_t cd] at ID
        have L := x_dg d (tAt T q) s' hb Q (hcc h, hcu h) (T.2 - tAt T q) (tAt T q) (up1 (up1 (up1 (up1 (hfi h 214) 2 (nI (tAt T q))) 3 (nI (tAt T q))) 5 (nI 0)) 4 (nI 2)) (by simp (disch := omega) only [up1_n]; exact h1) (by simp (disch := omega) only [up1_n, up1_s]) (by simp (disch := omega) only [up1_n, up1_s, Nat.sub_self]; rfl) (by omega) (by omega)
        rw [ty, if_pos rfl, be]
        simp (disch := omega) only [U_Ta_advances (cm _), SA, SB, SC1, SC2, SG, SV, SK, s, h1, b1, IL, ID, up1_s, up1_n, ltI, c0, eqI, Nat.one_ne_zero, nI_clamp, in_eq, true_implies, not_true_eq_false, not_false_eq_true, false_implies, true_and, and_true]
        rw [L]
        congr 2
        funext j
        unfold up1
        by_cases j2 : j = 2 <;> by_cases j3 : j = 3 <;> by_cases j4 : j = 4 <;> by_cases j5 : j = 5 <;> simp [j2, j3, j4, j5] <;> omega
      · have ty : tTy T q = 3 := by unfold tTy; rw [if_pos c0, if_neg cl, if_neg cd]
        have be : tBe T q = tAt T q + 1 := by unfold tBe; rw [if_neg (by omega), if_neg (by omega), if_pos ty]
        have IL := fun h Q => xt_isLetter d (T.1 (tAt T q)) b2 h Q
        simp only [b01_f cl] at IL
        have ID := fun h Q => xt_isDigit d (T.1 (tAt T q)) b2 h Q
        simp only [b01_f cd] at ID
        rw [ty, if_neg (by omega), be]
        simp (disch := omega) only [U_Ta_advances (cm _), SA, SB, SC1, SC2, SG, SV, SK, s, h1, b1, IL, ID, up1_s, up1_n, ltI, c0, nI_add, nI_clamp, in_eq, true_implies, not_true_eq_false, not_false_eq_true, false_implies, true_and, and_true]
        congr 2
        funext j
        unfold up1
        by_cases j2 : j = 2 <;> by_cases j3 : j = 3 <;> by_cases j4 : j = 4 <;> by_cases j5 : j = 5 <;> simp [j2, j3, j4, j5] <;> omega
  · have ty : tTy T q = 0 := by unfold tTy; rw [if_neg c0]
    have be : tBe T q = tAt T q := by unfold tBe; rw [if_neg (by omega), if_neg (by omega), if_neg (by omega)]
    rw [ty, if_neg (by omega), be]
    simp (disch := omega) only [U_Ta_advances (cm _), SA, SB, SC1, SC2, SG, SV, SK, s, h1, up1_s, up1_n, ltI, c0, true_implies, not_true_eq_false, not_false_eq_true, false_implies, true_and, and_true]
    congr 2
    funext j
    unfold up1
    by_cases j2 : j = 2 <;> by_cases j3 : j = 3 <;> by_cases j4 : j = 4 <;> by_cases j5 : j = 5 <;> simp [j2, j3, j4, j5] <;> omega
