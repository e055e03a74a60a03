/-! ===== the reference's value of an expression ===== -/
def rk (op : Nat) (x y : Int) : Int := if op = 6 then x + y else if op = 7 then x - y else if op = 8 then x * y else if op = 9 then x.tdiv y else if op = 10 then x.tmod y else if op = 11 then (if x < y then 1 else 0) else if op = 12 then (if y < x then 1 else 0) else (if x = y then 1 else 0)
theorem aOp_rk (op : Nat) (x y : Int) : aOp op x y = if (op = 9 ∨ op = 10) ∧ y = 0 then none else cl (rk op x y) := by
  have cb : ∀ (c : Prop) [Decidable c], some (if c then (1 : Int) else 0) = cl (if c then 1 else 0) := fun c _ => by split <;> rfl
  unfold aOp rk
  by_cases c1 : op = 6
  · subst c1; simp
  by_cases c2 : op = 7
  · subst c2; simp
  by_cases c3 : op = 8
  · subst c3; simp
  by_cases c4 : op = 9
  · subst c4; simp
  by_cases c5 : op = 10
  · subst c5; simp
  rw [if_neg (c := (op = 9 ∨ op = 10) ∧ y = 0) (by omega)]
  simp only [c1, c2, c3, c4, c5, if_false]
  split
  · exact cb _
  · split
    · exact cb _
    · exact cb _
theorem rk_r {op : Nat} {x y : Int} (hx : bd x) (hy : bd y) : -9223372036854775808 ≤ rk op x y ∧ rk op x y < 9223372036854775808 := by
  have h1 := mul_bd hx hy
  have h2 := tdiv_bd (y := y) hx
  have h3 := tmod_bd (y := y) hx
  obtain ⟨x1, x2⟩ := hx
  obtain ⟨y1, y2⟩ := hy
  obtain ⟨d1, d2⟩ := h2
  obtain ⟨m1, m2⟩ := h3
  unfold rk
  repeat (split; omega)
  omega
theorem bd_j {x : Int} (h : bd x) : -9223372036854775808 ≤ x ∧ x < 9223372036854775808 := ⟨by have := h.1; omega, by have := h.2; omega⟩
theorem sFI_id (h : MH) (a : Nat) : sFI h a (hfi h a) = h := by
  obtain ⟨a1, a2, a3, a4, a5, a6, a7, a8, a9, a10, a11⟩ := h
  unfold sFI
  simp only [hsz, hcc, hcu, hkd, hln, hfi, hfj, hfr, hia, hja, hra, up1_id]
theorem jI0 : lN 0 = jI 0 := by decide
theorem jI1 : lN 1 = jI 1 := by decide
set_option maxHeartbeats 2000000 in
theorem e_reckon (d op : Nat) {x y : Int} (h6 : 6 ≤ op) (h13 : op ≤ 13) (hx : bd x) (hy : bd y) {h : MH} (hk : hkd h 273 = 8) (hb : hfi h 273 38 = nI 0) (Q : RT) : callD (d + 1) 193 [.ref 273, .int (nI (op + 14)), .long (jI x), .long (jI y)] h Q = if (op = 9 ∨ op = 10) ∧ y = 0 then Q (some (.long (jI 0))) (sFI h 273 (up1 (hfi h 273) 38 (nI 1))) else Q (some (.long (jI (rk op x y)))) h := by
  have rx := bd_j hx
  have ry := bd_j hy
  have ey := jI_eq ry (y := 0) (by omega)
  have eid : sFI h 273 (up1 (hfi h 273) 38 (nI 0)) = h := by rw [up1_same hb]; exact sFI_id h 273
  rw [E_Mo_reckon]
  simp only [↓SL, LC, U_Mo_reckon (cm _), SA, SB]
  rcases op_range h6 h13 with rfl | rfl | rfl | rfl | rfl | rfl | rfl | rfl
  · rw [tsw_hit 0 (by decide) (by decide), if_neg (by omega)]
    simp (disch := omega) only [List.getD_cons_zero, List.getD_cons_succ, U_Mo_reckon (cm _), SA, SB, SV, jI_add]
    rfl
  · rw [tsw_hit 1 (by decide) (by decide), if_neg (by omega)]
    simp (disch := omega) only [List.getD_cons_zero, List.getD_cons_succ, U_Mo_reckon (cm _), SA, SB, SV, jI_sub]
    rfl
  · rw [tsw_hit 2 (by decide) (by decide), if_neg (by omega)]
    simp (disch := omega) only [List.getD_cons_zero, List.getD_cons_succ, U_Mo_reckon (cm _), SA, SB, SV, jI_mul]
    rfl
  · rw [tsw_hit 3 (by decide) (by decide)]
    by_cases c : y = 0
    · subst c
      rw [if_pos ⟨Or.inl rfl, rfl⟩]
      simp (disch := omega) only [↓SL, LC, List.getD_cons_zero, List.getD_cons_succ, U_Mo_reckon (cm _), SA, SB, SG, SV, SK, hk, jI0, up1_s, up1_n, up1_up1, eqI, Nat.reduceEqDiff, true_implies, not_true_eq_false, not_false_eq_true, false_implies, true_and, and_true, or_true, true_or]
    · rw [if_neg (fun q => c q.2)]
      simp (disch := omega) only [↓SL, LC, List.getD_cons_zero, List.getD_cons_succ, U_Mo_reckon (cm _), SA, SB, SG, SV, SK, hk, jI0, ey, c, eid, hb, jI_div rx ry, up1_s, up1_n, up1_up1, eqI, Nat.reduceEqDiff, true_implies, not_true_eq_false, not_false_eq_true, false_implies, true_and, and_true, or_true, true_or]
      rfl
  · rw [tsw_hit 4 (by decide) (by decide)]
    by_cases c : y = 0
    · subst c
      rw [if_pos ⟨Or.inr rfl, rfl⟩]
      simp (disch := omega) only [↓SL, LC, List.getD_cons_zero, List.getD_cons_succ, U_Mo_reckon (cm _), SA, SB, SG, SV, SK, hk, jI0, up1_s, up1_n, up1_up1, eqI, Nat.reduceEqDiff, true_implies, not_true_eq_false, not_false_eq_true, false_implies, true_and, and_true, or_true, true_or]
    · rw [if_neg (fun q => c q.2)]
      simp (disch := omega) only [↓SL, LC, List.getD_cons_zero, List.getD_cons_succ, U_Mo_reckon (cm _), SA, SB, SG, SV, SK, hk, jI0, ey, c, eid, hb, jI_rem rx ry, up1_s, up1_n, up1_up1, eqI, Nat.reduceEqDiff, true_implies, not_true_eq_false, not_false_eq_true, false_implies, true_and, and_true, or_true, true_or]
      rfl
  · rw [tsw_hit 5 (by decide) (by decide), if_neg (by omega)]
    have e : rk 11 x y = if x < y then 1 else 0 := rfl
    rw [e]
    by_cases c : x < y
    · simp (disch := omega) only [↓SL, LC, List.getD_cons_zero, List.getD_cons_succ, U_Mo_reckon (cm _), SA, SB, SV, jI_le, show ¬ y ≤ x by omega, c, jI1, if_true, true_implies, not_true_eq_false, not_false_eq_true, false_implies, true_and, and_true]
    · simp (disch := omega) only [↓SL, LC, List.getD_cons_zero, List.getD_cons_succ, U_Mo_reckon (cm _), SA, SB, SV, jI_le, show y ≤ x by omega, c, jI0, if_false, true_implies, not_true_eq_false, not_false_eq_true, false_implies, true_and, and_true]
  · rw [tsw_hit 6 (by decide) (by decide), if_neg (by omega)]
    have e : rk 12 x y = if y < x then 1 else 0 := rfl
    rw [e]
    by_cases c : y < x
    · simp (disch := omega) only [↓SL, LC, List.getD_cons_zero, List.getD_cons_succ, U_Mo_reckon (cm _), SA, SB, SV, jI_le, show ¬ x ≤ y by omega, c, jI1, if_true, true_implies, not_true_eq_false, not_false_eq_true, false_implies, true_and, and_true]
    · simp (disch := omega) only [↓SL, LC, List.getD_cons_zero, List.getD_cons_succ, U_Mo_reckon (cm _), SA, SB, SV, jI_le, show x ≤ y by omega, c, jI0, if_false, true_implies, not_true_eq_false, not_false_eq_true, false_implies, true_and, and_true]
  · rw [tsw_miss (Or.inr (by decide)), if_neg (c := ((13 = 9 ∨ 13 = 10) ∧ y = 0)) (by omega)]
    have e : rk 13 x y = if x = y then 1 else 0 := rfl
    rw [e]
    by_cases c : x = y
    · simp (disch := omega) only [↓SL, LC, U_Mo_reckon (cm _), SA, SB, SV, jI_eq, c, jI1, if_true, true_implies, not_true_eq_false, not_false_eq_true, false_implies, true_and, and_true]
    · simp (disch := omega) only [↓SL, LC, U_Mo_reckon (cm _), SA, SB, SV, jI_eq, c, jI0, if_false, true_implies, not_true_eq_false, not_false_eq_true, false_implies, true_and, and_true]
theorem e_in (d : Nat) (x lo hi : Int64) (h : MH) (Q : RT) : callD (d + 1) 130 [.long x, .long lo, .long hi] h Q = Q (some (.int (b01 (lo ≤ x ∧ x ≤ hi)))) h := by
  rw [E_Mo_in]
  unfold b01
  by_cases c1 : lo ≤ x
  · have c1' : ¬ x < lo := Int64.not_lt.mpr c1
    by_cases c2 : x ≤ hi
    · have c2' : ¬ hi < x := Int64.not_lt.mpr c2
      rw [if_pos ⟨c1, c2⟩]
      simp only [↓SL, LC, U_Mo_in (cm _), SA, SB, SV, c1', c2', true_implies, not_true_eq_false, not_false_eq_true, false_implies, true_and, and_true, or_true, true_or]
    · have c2' : hi < x := Int64.not_le.mp c2
      rw [if_neg (fun q => c2 q.2)]
      simp only [↓SL, LC, U_Mo_in (cm _), SA, SB, SV, c1', c2', true_implies, not_true_eq_false, not_false_eq_true, false_implies, true_and, and_true, or_true, true_or]
  · have c1' : x < lo := Int64.not_le.mp c1
    rw [if_neg (fun q => c1 q.1)]
    simp only [↓SL, LC, U_Mo_in (cm _), SA, SB, SV, c1', true_implies, not_true_eq_false, not_false_eq_true, false_implies, true_and, and_true, or_true, true_or]
