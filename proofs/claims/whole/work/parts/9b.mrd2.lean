theorem PLr_suf {f g : Nat → Int32} : ∀ (hi : PLt) (x : Nat × Nat) (lo : PLt), PLr f g (hi ++ x :: lo) → f lo.length = nI x.1 ∧ g lo.length = nI x.2
  | [], (o, a), lo, h => ⟨h.1, h.2.1⟩
  | (o, a) :: hi, x, lo, h => PLr_suf hi x lo h.2.2
def ivI (n : Nat) : Int32 := if n = 0 then -1 else nI n
theorem m_l_inner (d : Nat) {pl : PLt} {nc : Nat} {h : MH} (hM : MoS h) (h29 : hfi h 273 29 = nI pl.length) (hP : PLr (hia h 286) (hia h 287) pl) (hv : PV pl nc) (hn : pl.length ≤ 400) (Q : RT) (lm : Nat × Nat) : ∀ (m : Nat) (hi lo : PLt), hi.length = m → pl = hi ++ lo → WP cd_Mo_inner (callD d) Q lm 4 [] [some (.ref 273), some (.int (ivI (inn lo))), some (.int (nI lo.length))] h = Q (some (.int (ivI (inn pl)))) h
  | 0, hi, lo, hm, e => by
    have : hi = [] := List.eq_nil_of_length_eq_zero hm
    subst this
    have e : pl = lo := e
    subst e
    rw [U_Mo_inner_4 (cm _)]
    simp (disch := omega) only [U_Mo_inner (cm _), SA, SB, SG, SV, hM.1, h29, leI, Nat.le_refl, true_implies, not_true_eq_false, not_false_eq_true, false_implies, true_and, and_true]
  | m + 1, hi, lo, hm, e => by
    have hne : hi ≠ [] := fun z => by rw [z] at hm; cases hm
    obtain ⟨hi', x, rfl⟩ : ∃ hi' x, hi = hi' ++ [x] := ⟨hi.dropLast, hi.getLast hne, (List.dropLast_concat_getLast hne).symm⟩
    have e2 : pl = hi' ++ x :: lo := by rw [e, List.append_assoc]; rfl
    have hl : hi'.length = m := by rw [List.length_append] at hm; simpa using hm
    have hx := hP
    rw [e2] at hx
    obtain ⟨x1, x2⟩ := PLr_suf hi' x lo hx
    have hlen : pl.length = m + 1 + lo.length := by rw [e2, List.length_append, List.length_cons]; omega
    obtain ⟨o1, o2, -, -⟩ := hv x (by rw [e2]; exact List.mem_append_right _ (List.mem_cons_self ..))
    obtain ⟨m1, -, -, -, -, -, -, m2, m3, m4, -⟩ := hM.rdr
    have ih := m_l_inner d hM h29 hP hv hn Q lm m hi' (x :: lo) hl e2
    rw [List.length_cons] at ih
    obtain ⟨o, a⟩ := x
    have ei : inn ((o, a) :: lo) = if 31 ≤ o then o else inn lo := rfl
    rw [ei] at ih
    rw [U_Mo_inner_4 (cm _)]
    by_cases c : o < 31
    · rw [if_neg (by omega)] at ih
      simp (disch := omega) only [U_Mo_inner (cm _), SA, SB, SG, SV, m1, m2, m3, m4, h29, hlen, x1, leI, ltI, c, show ¬ m + 1 + lo.length ≤ lo.length by omega, nI_add, nI_clamp, in_eq, true_implies, not_true_eq_false, not_false_eq_true, false_implies, true_and, and_true]
      exact ih
    · rw [if_pos (by omega), show ivI o = nI o from if_neg (by omega)] at ih
      simp (disch := omega) only [U_Mo_inner (cm _), SA, SB, SG, SV, m1, m2, m3, m4, h29, hlen, x1, leI, ltI, c, show ¬ m + 1 + lo.length ≤ lo.length by omega, nI_add, nI_clamp, in_eq, true_implies, not_true_eq_false, not_false_eq_true, false_implies, true_and, and_true]
      exact ih
theorem m_inner (d : Nat) {pl : PLt} {cf : CFt} {nc : Nat} {h : MH} (s : SR h pl cf nc) (Q : RT) : callD (d + 1) 176 [.ref 273] h Q = Q (some (.int (ivI (inn pl)))) h := by
  obtain ⟨s1, s2, s3, s4, s5, s6, s7⟩ := s
  rw [E_Mo_inner]
  simp (disch := omega) only [U_Mo_inner (cm _), SA, SB, SG, SV]
  exact m_l_inner d s1 s3 s5 s6 (by omega) Q _ pl.length pl [] rfl (List.append_nil pl).symm
theorem i2l_r2 (x : Nat) (hx : x < 1000) (a b : Nat) (ha : a < 1000) (hb : b < 1000) : (lN a ≤ (nI x).toInt64 ∧ (nI x).toInt64 ≤ lN b) = (a ≤ x ∧ x ≤ b) := by
  rw [nI_l (by omega)]
  exact propext (and_congr (lN_le (by omega) (by omega)) (lN_le (by omega) (by omega)))
theorem m_l_isC (d : Nat) {nc : Nat} {h : MH} (hM : MoS h) (Q : RT) (lm : Nat × Nat) : ∀ (pl : PLt), PLr (hia h 286) (hia h 287) pl → PV pl nc → pl.length ≤ 400 → WP cd_Mo_isCompared (callD (d + 1)) Q lm 7 [] [some (.ref 273), some (.int (dn pl.length))] h = Q (some (.int (b2 (isC pl)))) h
  | [], hP, hv, hn => by
    rw [U_Mo_isCompared_7 (cm _)]
    have z : (-1 : Int32) < nI 0 := by decide
    simp (disch := omega) only [List.length_nil, dn_0, U_Mo_isCompared (cm _), SA, SB, SG, SV, z, true_or, true_implies, not_true_eq_false, not_false_eq_true, false_implies, true_and, and_true]
    rfl
  | (o, a) :: r, hP, hv, hn => by
    obtain ⟨p1, p2, p3⟩ := hP
    rw [List.length_cons] at hn
    obtain ⟨o1, o2, -, -⟩ := hv (o, a) (List.mem_cons_self ..)
    have o1' : 20 ≤ o := o1
    have o2' : o ≤ 32 := o2
    obtain ⟨m1, -, -, -, -, -, -, m2, m3, m4, -⟩ := hM.rdr
    have ih := m_l_isC d hM Q lm r p3 (fun y hy => hv y (List.mem_cons_of_mem _ hy)) (by omega)
    have ei : isC ((o, a) :: r) = if 20 ≤ o ∧ o ≤ 24 then isC r else decide (25 ≤ o ∧ o ≤ 27) := rfl
    have i1 := i2l_r2 o (by omega) 20 24 (by omega) (by omega)
    have i2 := i2l_r2 o (by omega) 25 27 (by omega) (by omega)
    have n0 : ¬ r.length < 0 := by omega
    rw [ei, U_Mo_isCompared_7 (cm _)]
    by_cases c : 20 ≤ o ∧ o ≤ 24
    · rw [if_pos c, ← ih]
      have b1 : b01 (lN 20 ≤ (nI o).toInt64 ∧ (nI o).toInt64 ≤ lN 24) = nI 1 := b01_t (by rw [i1]; exact c)
      simp (disch := omega) only [List.length_cons, dn_1, U_Mo_isCompared (cm _), SA, SB, SC1, SC2, SG, SV, m1, m2, m3, m4, p1, e_in, b1, ltI, n0, dn_s, eqI, Nat.one_ne_zero, nI_clamp, in_eq, true_implies, not_true_eq_false, not_false_eq_true, false_implies, true_and, and_true]
    · rw [if_neg c]
      have b1 : b01 (lN 20 ≤ (nI o).toInt64 ∧ (nI o).toInt64 ≤ lN 24) = nI 0 := b01_f (by rw [i1]; exact c)
      by_cases c2 : 25 ≤ o ∧ o ≤ 27
      · have b2' : b01 (lN 25 ≤ (nI o).toInt64 ∧ (nI o).toInt64 ≤ lN 27) = nI 1 := b01_t (by rw [i2]; exact c2)
        rw [decide_eq_true c2, b2_t]
        simp (disch := omega) only [List.length_cons, dn_1, U_Mo_isCompared (cm _), SA, SB, SC1, SC2, SG, SV, m1, m2, m3, m4, p1, e_in, b1, b2', ltI, n0, eqI, Nat.one_ne_zero, nI_clamp, in_eq, or_true, true_implies, not_true_eq_false, not_false_eq_true, false_implies, true_and, and_true]
      · have b2' : b01 (lN 25 ≤ (nI o).toInt64 ∧ (nI o).toInt64 ≤ lN 27) = nI 0 := b01_f (by rw [i2]; exact c2)
        rw [decide_eq_false c2, b2_f]
        simp (disch := omega) only [List.length_cons, dn_1, U_Mo_isCompared (cm _), SA, SB, SC1, SC2, SG, SV, m1, m2, m3, m4, p1, e_in, b1, b2', ltI, n0, eqI, Nat.one_ne_zero, nI_clamp, in_eq, true_or, true_implies, not_true_eq_false, not_false_eq_true, false_implies, true_and, and_true]
theorem m_isC (d : Nat) {pl : PLt} {cf : CFt} {nc : Nat} {h : MH} (s : SR h pl cf nc) (Q : RT) : callD (d + 2) 177 [.ref 273] h Q = Q (some (.int (b2 (isC pl)))) h := by
  obtain ⟨s1, s2, s3, s4, s5, s6, s7⟩ := s
  rw [E_Mo_isCompared]
  simp (disch := omega) only [U_Mo_isCompared (cm _), SA, SB, SG, SV, s1.1, s3, dn_m, true_and]
  exact m_l_isC d s1 Q _ pl s5 s6 (by omega)
/-! ===== tokens that must be ===== -/
def nxH (h : MH) (T : TP) (q : Nat) : MH := MF h (mkF (hfi h 273) T (tBe T q)) (mkG (hfj h 273) T (tBe T q))
def bdH (h : MH) : MH := sFI h 273 (up1 (up1 (hfi h 273) 19 (nI 1)) 18 (hfi h 273 14))
theorem m_next1 (d q : Nat) {h : MH} {T : TP} (t : MTk h T q) (Q : RT) : callD (d + 2) 166 [.ref 273] h Q = Q none (nxH h T q) ∧ MTk (nxH h T q) T (tBe T q) := by
  obtain ⟨s, hb, hq, h13, h14, h15, h16, h17⟩ := t
  have hB := tBe_N T hq
  refine ⟨m_nextQ d (tBe T q) s hb hB h13 h15 Q, s, hb, hB, ?_, ?_, ?_, ?_, ?_⟩
  · unfold nxH; rw [MF_g.1]; unfold mkF; simp (disch := omega) only [up1_n]; exact h13
  · unfold nxH; rw [MF_g.1]; unfold mkF; simp (disch := omega) only [up1_n, up1_s]
  · unfold nxH; rw [MF_g.1]; unfold mkF; simp (disch := omega) only [up1_n, up1_s]
  · unfold nxH; rw [MF_g.1]; unfold mkF; simp (disch := omega) only [up1_n, up1_s]
  · unfold nxH; rw [MF_g.2.1]; unfold mkG; rw [up1_s]
theorem m_must (d q : Nat) (b : Bool) {h : MH} {T : TP} (t : MTk h T q) (hbad : hfi h 273 19 = nI 0) (Q : RT) : callD (d + 3) 169 [.ref 273, .int (b2 b)] h Q = if b = true then Q none (nxH h T q) else Q none (bdH h) := by
  have N := (m_next1 d q t Q).1
  have NN := fun Q => (m_next1 d q t Q).1
  have k8 := t.1.1
  rw [E_Mo_must]
  cases b with
  | true =>
    rw [if_pos rfl, b2_t]
    simp (disch := omega) only [U_Mo_must (cm _), SA, SB, SC1, SC2, SG, SV, k8, hbad, NN, eqI, Nat.one_ne_zero, true_implies, not_true_eq_false, not_false_eq_true, false_implies, true_and, and_true]
  | false =>
    rw [if_neg (by decide), b2_f]
    unfold bdH
    simp (disch := omega) only [U_Mo_must (cm _), SA, SB, SC1, SC2, SG, SV, SK, k8, hbad, up1_s, up1_n, eqI, Nat.one_ne_zero, true_or, or_true, true_implies, not_true_eq_false, not_false_eq_true, false_implies, true_and, and_true]
