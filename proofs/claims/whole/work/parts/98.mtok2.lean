theorem dmv_le (c : Nat → Nat) (a : Nat) : ∀ k, (∀ i, i < k → 48 ≤ c (a + i) ∧ c (a + i) ≤ 57) → dmv c a k ≤ 10000009
  | 0, _ => Nat.zero_le _
  | k + 1, h => by
    have ih := dmv_le c a k (fun i hi => h i (by omega))
    have := h k (by omega)
    show (if 1000000 < dmv c a k then dmv c a k else dmv c a k * 10 + (c (a + k) - 48)) ≤ 10000009
    split <;> omega
theorem m_dg (d a : Nat) {h : MH} {T : TP} (s : MaS h) (hb : TB (hia h 282) T) (Q : RT) (lm : Nat × Nat) : ∀ (m i : Nat) (f : Nat → Int32) (g : Nat → Int64), f 13 = nI T.2 → f 15 = nI i → f 16 = nI 2 → g 17 = lN (dmv T.1 a (i - a)) → a ≤ i → i + m = T.2 → (∀ j, a ≤ j → j < i → cD (T.1 j) = true) → WP cd_Mo_next (callD (d + 1)) Q lm 243 [] [some (.ref 273)] (MF h f g) = Q none (MF h (up1 f 15 (nI (skp cD T.1 m i))) (up1 g 17 (lN (dmv T.1 a (skp cD T.1 m i - a)))))
  | 0, i, f, g, f13, f15, f16, g17, ha, hi, hj => by
    unfold MaS at s
    have n4 := hb.1
    rw [show skp cD T.1 0 i = i from rfl, up1_same f15, up1_same g17, U_Mo_next_243 (cm _)]
    simp (disch := omega) only [U_Mo_next (cm _), SA, SB, SV, MF_g, s, f13, f15, f16, leI, show T.2 ≤ i by omega, true_implies, not_true_eq_false, not_false_eq_true, false_implies, true_and, and_true]
  | m + 1, i, f, g, f13, f15, f16, g17, ha, hi, hj => by
    have s' := s
    unfold MaS at s
    have n4 := hb.1
    obtain ⟨b1, b2⟩ := hb.2 i (by omega)
    have IL := fun h Q => mt_isDigit d (T.1 i) b2 h Q
    have dr : ∀ j, a ≤ j → j < i → 48 ≤ T.1 j ∧ T.1 j ≤ 57 := fun j h1 h2 => by
      have := hj j h1 h2
      unfold cD at this
      simpa using this
    have dl := dmv_le T.1 a (i - a) (fun j hj' => dr (a + j) (by omega) (by omega))
    rw [U_Mo_next_243 (cm _)]
    by_cases c : cD (T.1 i) = true
    · simp only [b01_t c] at IL
      have c9 : 48 ≤ T.1 i ∧ T.1 i ≤ 57 := by unfold cD at c; simpa using c
      have hj' : ∀ j, a ≤ j → j < i + 1 → cD (T.1 j) = true := fun j h1 h2 => by
        by_cases e : j = i
        · rw [e]; exact c
        · exact hj j h1 (by omega)
      have e1 : dmv T.1 a (i + 1 - a) = if 1000000 < dmv T.1 a (i - a) then dmv T.1 a (i - a) else dmv T.1 a (i - a) * 10 + (T.1 i - 48) := by
        rw [show i + 1 - a = (i - a) + 1 by omega]
        show (if 1000000 < dmv T.1 a (i - a) then _ else dmv T.1 a (i - a) * 10 + (T.1 (a + (i - a)) - 48)) = _
        rw [show a + (i - a) = i by omega]
      have ih := m_dg d a s' hb Q lm m (i + 1) (up1 f 15 (nI (i + 1))) (up1 g 17 (lN (dmv T.1 a (i + 1 - a)))) (by rw [up1_n _ _ (by omega)]; exact f13) (up1_s _ _ _) (by rw [up1_n _ _ (by omega)]; exact f16) (up1_s _ _ _) (by omega) (by omega) hj'
      rw [up1_up1, up1_up1] at ih
      rw [show skp cD T.1 (m + 1) i = skp cD T.1 m (i + 1) from if_pos c, ← ih]
      have cmp : (lN (dmv T.1 a (i - a)) ≤ lN 1000000) = (dmv T.1 a (i - a) ≤ 1000000) := propext (lN_le (by omega) (by omega))
      by_cases c6 : dmv T.1 a (i - a) ≤ 1000000
      · rw [e1, if_neg (by omega)]
        have ew : lN (dmv T.1 a (i - a)) * lN 10 + lN (T.1 i) - lN 48 = lN (dmv T.1 a (i - a) * 10 + (T.1 i - 48)) := by
          rw [lN_mul, lN_add, lN_sub (by omega), show dmv T.1 a (i - a) * 10 + T.1 i - 48 = dmv T.1 a (i - a) * 10 + (T.1 i - 48) by omega]
        simp (disch := omega) only [↓SL, LC, U_Mo_next (cm _), SA, SB, SC1, SC2, SV, MF_g, MF_i, MF_j, s, f13, f15, f16, g17, b1, IL, cmp, c6, ew, leI, show ¬ T.2 ≤ i by omega, eqI, Nat.one_ne_zero, nI_add, nI_l, nI_clamp, in_eq, up1_s, true_implies, not_true_eq_false, not_false_eq_true, false_implies, true_and, and_true]
      · rw [e1, if_pos (by omega)]
        simp (disch := omega) only [↓SL, LC, U_Mo_next (cm _), SA, SB, SC1, SC2, SV, MF_g, MF_i, MF_j, s, f13, f15, f16, g17, b1, IL, cmp, c6, leI, show ¬ T.2 ≤ i by omega, eqI, Nat.one_ne_zero, nI_add, nI_l, nI_clamp, in_eq, up1_s, true_implies, not_true_eq_false, not_false_eq_true, false_implies, true_and, and_true]
    · simp only [b01_f c] at IL
      rw [show skp cD T.1 (m + 1) i = i from if_neg c, up1_same f15, up1_same g17]
      simp (disch := omega) only [U_Mo_next (cm _), SA, SB, SC1, SC2, SV, MF_g, MF_i, s, f13, f15, f16, b1, IL, leI, show ¬ T.2 ≤ i by omega, nI_clamp, in_eq, true_implies, not_true_eq_false, not_false_eq_true, false_implies, true_and, and_true]
/-- the token that stands behind q -/
def mkF (f : Nat → Int32) (T : TP) (q : Nat) : Nat → Int32 := up1 (up1 (up1 f 14 (nI (tAt T q))) 15 (nI (tBe T q))) 16 (nI (tTy T q))
def mkG (g : Nat → Int64) (T : TP) (q : Nat) : Nat → Int64 := up1 g 17 (wth T q)
theorem f3_eq {f : Nat → Int32} {a b c a' b' : Int32} : up1 (up1 (up1 (up1 (up1 f 14 a') 14 a) 15 b') 16 c) 15 b = up1 (up1 (up1 f 14 a) 15 b) 16 c := by
  funext j
  unfold up1
  by_cases j1 : j = 14 <;> by_cases j2 : j = 15 <;> by_cases j3 : j = 16 <;> simp [j1, j2, j3] <;> omega
theorem m_nextQ (d q : Nat) {h : MH} {T : TP} (s : MaS h) (hb : TB (hia h 282) T) (hq : q ≤ T.2) (h13 : hfi h 273 13 = nI T.2) (h15 : hfi h 273 15 = nI q) (Q : RT) : callD (d + 2) 166 [.ref 273] h Q = Q none (MF h (mkF (hfi h 273) T q) (mkG (hfj h 273) T q)) := by
  have s' := s
  unfold MaS at s
  have n4 := hb.1
  have hA := tAt_N T hq
  have P := m_sp (d + 1) s' hb (hfj h 273) Q (hcc h, hcu h) (T.2 - q) q (up1 (hfi h 273) 14 (nI q)) (by rw [up1_n _ _ (by omega)]; exact h13) (up1_s _ _ _) (by omega)
  rw [up1_up1, show skp cS T.1 (T.2 - q) q = tAt T q from rfl] at P
  have e0 : sFI h 273 (up1 (hfi h 273) 14 (nI q)) = MF h (up1 (hfi h 273) 14 (nI q)) (hfj h 273) := by
    have := MF_i h (hfi h 273) (up1 (hfi h 273) 14 (nI q)) (hfj h 273)
    rw [MF_id] at this
    exact this
  rw [E_Mo_next]
  simp (disch := omega) only [U_Mo_next (cm _), SA, SB, SG, SV, s, h15, true_and]
  rw [e0, P]
  generalize hF : up1 (hfi h 273) 14 (nI (tAt T q)) = F
  have F13 : F 13 = nI T.2 := by rw [← hF, up1_n _ _ (by omega)]; exact h13
  have F14 : F 14 = nI (tAt T q) := by rw [← hF, up1_s]
  have eF : ∀ b c, up1 (up1 F 15 b) 16 c = up1 (up1 (up1 (hfi h 273) 14 (nI (tAt T q))) 15 b) 16 c := fun b c => by rw [hF]
  unfold mkF mkG wth
  by_cases c0 : tAt T q < T.2
  · obtain ⟨b1, b2⟩ := hb.2 _ c0
    have ne : ¬ tAt T q = T.2 := by omega
    by_cases cl : cL (T.1 (tAt T q)) = true
    · have ty : tTy T q = 1 := by unfold tTy; rw [if_pos c0, if_pos cl]
      have be : tBe T q = skp cL T.1 (T.2 - tAt T q) (tAt T q) := by unfold tBe; rw [if_pos ty]
      have IL := fun h Q => mt_isSmall d (T.1 (tAt T q)) b2 h Q
      simp only [b01_t cl] at IL
      have L := m_lt d (tAt T q) s' hb Q (hcc h, hcu h) (T.2 - tAt T q) (tAt T q) (up1 (up1 F 15 (nI (tAt T q))) 16 (nI 1)) (up1 (hfj h 273) 17 (lN 0)) (by simp (disch := omega) only [up1_n]; exact F13) (by simp (disch := omega) only [up1_n]; exact F14) (by simp (disch := omega) only [up1_n, up1_s]) (up1_s _ _ _) (by rw [up1_s, Nat.sub_self]; rfl) (by omega) (by omega) (fun j h1 h2 => by omega)
      rw [ty, if_pos rfl, be]
      simp (disch := omega) only [U_Mo_next (cm _), SA, SB, SC1, SC2, SV, MF_g, MF_i, MF_j, s, F13, F14, b1, IL, eqI, ne, Nat.one_ne_zero, Nat.reduceEqDiff, nI_clamp, in_eq, up1_s, up1_n, true_implies, not_true_eq_false, not_false_eq_true, false_implies, true_and, and_true]
      rw [L, U_Mo_next_243 (cm _)]
      simp (disch := omega) only [U_Mo_next (cm _), SA, SB, SC1, SC2, SV, MF_g, MF_i, MF_j, s, eqI, Nat.reduceEqDiff, up1_s, up1_n, up1_up1, true_implies, not_true_eq_false, not_false_eq_true, false_implies, true_and, and_true]
      congr 2
      rw [← hF]
      funext j
      unfold up1
      by_cases j1 : j = 14 <;> by_cases j2 : j = 15 <;> by_cases j3 : j = 16 <;> simp [j1, j2, j3] <;> omega
    · have IL := fun h Q => mt_isSmall d (T.1 (tAt T q)) b2 h Q
      simp only [b01_f cl] at IL
      by_cases cd : cD (T.1 (tAt T q)) = true
      · have ty : tTy T q = 2 := by unfold tTy; rw [if_pos c0, if_neg cl, if_pos cd]
        have be : tBe T q = skp cD T.1 (T.2 - tAt T q) (tAt T q) := by unfold tBe; rw [if_neg (by omega), if_pos ty]
        have ID := fun h Q => mt_isDigit d (T.1 (tAt T q)) b2 h Q
        simp only [b01_t cd] at ID
        have L := m_dg d (tAt T q) s' hb Q (hcc h, hcu h) (T.2 - tAt T q) (tAt T q) (up1 (up1 F 15 (nI (tAt T q))) 16 (nI 2)) (up1 (hfj h 273) 17 (lN 0)) (by simp (disch := omega) only [up1_n]; exact F13) (by simp (disch := omega) only [up1_n, up1_s]) (up1_s _ _ _) (by rw [up1_s, Nat.sub_self]; rfl) (by omega) (by omega) (fun j h1 h2 => by omega)
        rw [ty, if_neg (by omega), if_pos rfl, be]
        simp (disch := omega) only [U_Mo_next (cm _), SA, SB, SC1, SC2, SV, MF_g, MF_i, MF_j, s, F13, F14, b1, IL, ID, eqI, ne, Nat.one_ne_zero, Nat.reduceEqDiff, nI_l, nI_add, nI_clamp, in_eq, up1_s, up1_n, up1_up1, true_implies, not_true_eq_false, not_false_eq_true, false_implies, true_and, and_true]
        rw [U_Mo_next_149 (cm _)]
        simp (disch := omega) only [U_Mo_next (cm _), SA, SB, SC1, SC2, SV, MF_g, MF_i, MF_j, s, F13, F14, b1, eqI, ne, Nat.one_ne_zero, Nat.reduceEqDiff, nI_l, nI_add, nI_clamp, in_eq, up1_s, up1_n, up1_up1, true_implies, not_true_eq_false, not_false_eq_true, false_implies, true_and, and_true]
        rw [L, up1_up1]
        congr 2
        rw [← hF]
        funext j
        unfold up1
        by_cases j1 : j = 14 <;> by_cases j2 : j = 15 <;> by_cases j3 : j = 16 <;> simp [j1, j2, j3] <;> omega
      · have ty : tTy T q = 3 := by unfold tTy; rw [if_pos c0, if_neg cl, if_neg cd]
        have be : tBe T q = tAt T q + 1 := by unfold tBe; rw [if_neg (by omega), if_neg (by omega), if_pos ty]
        have ID := fun h Q => mt_isDigit d (T.1 (tAt T q)) b2 h Q
        simp only [b01_f cd] at ID
        rw [ty, if_neg (by omega), if_neg (by omega), if_pos rfl, be]
        simp (disch := omega) only [U_Mo_next (cm _), SA, SB, SC1, SC2, SV, MF_g, MF_i, MF_j, s, F13, F14, b1, IL, ID, eqI, ne, Nat.one_ne_zero, Nat.reduceEqDiff, nI_l, nI_add, nI_clamp, in_eq, up1_s, up1_n, up1_up1, true_implies, not_true_eq_false, not_false_eq_true, false_implies, true_and, and_true]
        rw [U_Mo_next_149 (cm _)]
        simp (disch := omega) only [U_Mo_next (cm _), SA, SB, SC1, SC2, SV, MF_g, MF_i, MF_j, s, F13, F14, b1, eqI, ne, Nat.one_ne_zero, Nat.reduceEqDiff, nI_l, nI_add, nI_clamp, in_eq, up1_s, up1_n, up1_up1, true_implies, not_true_eq_false, not_false_eq_true, false_implies, true_and, and_true]
        rw [U_Mo_next_243 (cm _)]
        simp (disch := omega) only [U_Mo_next (cm _), SA, SB, SC1, SC2, SV, MF_g, MF_i, MF_j, s, F13, F14, b1, eqI, ne, Nat.one_ne_zero, Nat.reduceEqDiff, nI_l, nI_add, nI_clamp, in_eq, up1_s, up1_n, up1_up1, true_implies, not_true_eq_false, not_false_eq_true, false_implies, true_and, and_true]
        congr 2
        rw [← hF]
        funext j
        unfold up1
        by_cases j1 : j = 14 <;> by_cases j2 : j = 15 <;> by_cases j3 : j = 16 <;> simp [j1, j2, j3] <;> omega
  · have e : tAt T q = T.2 := by omega
    have ty : tTy T q = 0 := by unfold tTy; rw [if_neg c0]
    have be : tBe T q = tAt T q := by unfold tBe; rw [if_neg (by omega), if_neg (by omega), if_neg (by omega)]
    rw [ty, if_neg (by omega), if_neg (by omega), if_neg (by omega), be]
    simp (disch := omega) only [U_Mo_next (cm _), SA, SB, SC1, SC2, SV, MF_g, MF_i, MF_j, s, F13, F14, e, eqI, Nat.one_ne_zero, Nat.reduceEqDiff, nI_l, nI_add, nI_clamp, in_eq, up1_s, up1_n, up1_up1, true_implies, not_true_eq_false, not_false_eq_true, false_implies, true_and, and_true]
    rw [U_Mo_next_149 (cm _)]
    simp (disch := omega) only [U_Mo_next (cm _), SA, SB, SC1, SC2, SV, MF_g, MF_i, MF_j, s, F13, F14, e, eqI, Nat.one_ne_zero, Nat.reduceEqDiff, nI_l, nI_add, nI_clamp, in_eq, up1_s, up1_n, up1_up1, true_implies, not_true_eq_false, not_false_eq_true, false_implies, true_and, and_true]
    rw [U_Mo_next_243 (cm _)]
    simp (disch := omega) only [U_Mo_next (cm _), SA, SB, SC1, SC2, SV, MF_g, MF_i, MF_j, s, F13, F14, e, eqI, Nat.one_ne_zero, Nat.reduceEqDiff, nI_l, nI_add, nI_clamp, in_eq, up1_s, up1_n, up1_up1, true_implies, not_true_eq_false, not_false_eq_true, false_implies, true_and, and_true]
    congr 2
    rw [← hF, e]
