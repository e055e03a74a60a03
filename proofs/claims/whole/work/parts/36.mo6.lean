theorem id_275 (h : MH) : sIA h 275 (hia h 275) = h := sIA_id h 275
def mTL3 (p : RW) (r : Nat) : RW := if gR p r 4 = nI 0 then mEnds p r else p
def mTL2 (p : RW) (r o : Nat) : RW := mTL3 (if gR p r 2 = nI o ∧ gR p r 0 < mBy p r o then up1 p (105 + 7 * r + 6) (nI 1) else p) r
def mTL1 (p : RW) (r o : Nat) : RW := mTL2 (if gC p r o = nI 0 then up1 (up1 p (105 + 7 * r + 5) (gR p r 5 &&& (sh1 o ^^^ (-1)))) (105 + 7 * r + 4) (gR p r 4 &&& (sh1 o ^^^ (-1))) else p) r o
def mTL (p : RW) (r o : Nat) : RW := if r = 0 then p else if gR p r 3 = nI 0 then mDecide p r (nI 0) else mTL1 p r o
theorem t106_takesLink (d r o : Nat) (hr : r < 7) {h : MH} (hM : MoS h) (hQ : QL (hia h 275) 439) (hs : SU (gR (hia h 275) r 2)) (Q : RT) (lm : Nat × Nat) : WP cd_Mo_takesLink (callD (d + 7)) Q lm 106 [] [some (.ref 273), some (.int (nI r)), some (.int (nI o)), some (.int (nI (105 + 7 * r)))] h = Q none (sIA h 275 (mTL3 (hia h 275) r)) := by
  obtain ⟨m1, m2, m3, m4⟩ := hM.row
  unfold mTL3
  by_cases c : gR (hia h 275) r 4 = nI 0
  · rw [if_pos c]
    unfold gR at c
    simp (disch := first | omega | exact hM | exact hQ | exact hs) only [U_Mo_takesLink (cm _), SA, SB, SC1, SC2, SG, SV, SK, nI_add, nI_clamp, in_eq, m1, m2, m3, m4, c, true_and, and_true, e_ends, Nat.reduceLeDiff, true_implies, not_true_eq_false, not_false_eq_true, false_implies]
  · rw [if_neg c]
    unfold gR at c
    simp (disch := first | omega | exact hM | exact hQ | exact hs) only [U_Mo_takesLink (cm _), SA, SB, SC1, SC2, SG, SV, SK, nI_add, nI_clamp, in_eq, m1, m2, m3, m4, c, true_and, and_true, Nat.reduceLeDiff, true_implies, not_true_eq_false, not_false_eq_true, false_implies, id_275]
theorem gR_up {p : RW} {r j k : Nat} {v : Int32} (h : ¬ 105 + 7 * r + j = k) : gR (up1 p k v) r j = gR p r j := up1_n _ _ h
theorem t69_takesLink (d r o : Nat) (hr : r < 7) (ho : o < 7) {h : MH} (hM : MoS h) (hQ : QL (hia h 275) 439) (hs : SU (gR (hia h 275) r 2)) (Q : RT) (lm : Nat × Nat) : WP cd_Mo_takesLink (callD (d + 7)) Q lm 69 [] [some (.ref 273), some (.int (nI r)), some (.int (nI o)), some (.int (nI (105 + 7 * r)))] h = Q none (sIA h 275 (mTL2 (hia h 275) r o)) := by
  obtain ⟨m1, m2, m3, m4⟩ := hM.row
  unfold mTL2
  by_cases c : gR (hia h 275) r 2 = nI o
  · by_cases c2 : gR (hia h 275) r 0 < mBy (hia h 275) r o
    · rw [if_pos ⟨c, c2⟩]
      have c2' : ¬ mBy (hia h 275) r o ≤ gR (hia h 275) r 0 := Int32.not_le.mpr c2
      unfold gR at c c2'
      rw [Nat.add_zero] at c2'
      simp (disch := first | omega | exact hM | (simp only [SG, SK, MoS_s]; exact hM) | (simp (disch := omega) only [SG, SK, up1_s, nI_add, nI_clamp, QL_hia, QL_up, gR_up]; first | exact hQ | exact hs)) only [↓t106_takesLink, U_Mo_takesLink (cm _), SA, SB, SC1, SC2, SG, SV, SK, nI_add, nI_clamp, in_eq, m1, m2, m3, m4, c, c2', true_and, and_true, e_by, up1_s, Nat.reduceLeDiff, true_implies, not_true_eq_false, not_false_eq_true, false_implies]
    · rw [if_neg (fun q => c2 q.2)]
      have c2' : mBy (hia h 275) r o ≤ gR (hia h 275) r 0 := Int32.not_lt.mp c2
      unfold gR at c c2'
      rw [Nat.add_zero] at c2'
      simp (disch := first | omega | exact hM | exact hQ | exact hs) only [↓t106_takesLink, U_Mo_takesLink (cm _), SA, SB, SC1, SC2, SG, SV, SK, nI_add, nI_clamp, in_eq, m1, m2, m3, m4, c, c2', true_and, and_true, e_by, Nat.reduceLeDiff, true_implies, not_true_eq_false, not_false_eq_true, false_implies]
  · rw [if_neg (fun q => c q.1)]
    unfold gR at c
    simp (disch := first | omega | exact hM | exact hQ | exact hs) only [↓t106_takesLink, U_Mo_takesLink (cm _), SA, SB, SC1, SC2, SG, SV, SK, nI_add, nI_clamp, in_eq, m1, m2, m3, m4, c, true_and, and_true, Nat.reduceLeDiff, true_implies, not_true_eq_false, not_false_eq_true, false_implies]
theorem e_takesLink (d r o : Nat) (hr : r < 7) (ho : o < 7) {h : MH} (hM : MoS h) (hQ : QL (hia h 275) 439) (hs : SU (gR (hia h 275) r 2)) (Q : RT) : callD (d + 8) 208 [.ref 273, .int (nI r), .int (nI o)] h Q = Q none (sIA h 275 (mTL (hia h 275) r o)) := by
  obtain ⟨m1, m2, m3, m4⟩ := hM.row
  rw [E_Mo_takesLink]
  unfold mTL
  by_cases c0 : r = 0
  · subst c0
    simp (disch := first | omega | exact hM | exact hQ | exact hs) only [U_Mo_takesLink (cm _), SA, SB, SC1, SC2, SG, SV, e_routerAt, if_true, true_implies, not_true_eq_false, not_false_eq_true, false_implies, true_and, and_true, id_275]
  · rw [if_neg c0]
    by_cases c1 : gR (hia h 275) r 3 = nI 0
    · rw [if_pos c1]
      unfold gR at c1
      simp (disch := first | omega | exact hM | exact hQ | exact hs) only [U_Mo_takesLink (cm _), SA, SB, SC1, SC2, SG, SV, SK, nI_add, nI_clamp, in_eq, eqI, m1, m2, m3, m4, c0, c1, true_and, and_true, e_routerAt, e_decide, Nat.reduceLeDiff, true_implies, not_true_eq_false, not_false_eq_true, false_implies]
    · rw [if_neg c1]
      unfold mTL1
      by_cases c2 : gC (hia h 275) r o = nI 0
      · rw [if_pos c2]
        unfold gR at c1
        simp (disch := first | omega | exact hM | (simp only [SG, SK, MoS_s]; exact hM) | (simp (disch := omega) only [SG, SK, up1_s, nI_add, nI_clamp, QL_hia, QL_up, gR_up]; first | exact hQ | exact hs)) only [↓t69_takesLink, U_Mo_takesLink (cm _), SA, SB, SC1, SC2, SG, SV, SK, nI_add, nI_clamp, in_eq, eqI, m1, m2, m3, m4, c0, c1, c2, true_and, and_true, e_routerAt, e_cost, up1_s, up1_n, gR, sh1, Nat.reduceLeDiff, true_implies, not_true_eq_false, not_false_eq_true, false_implies]
      · rw [if_neg c2]
        unfold gR at c1
        simp (disch := first | omega | exact hM | exact hQ | exact hs) only [↓t69_takesLink, U_Mo_takesLink (cm _), SA, SB, SC1, SC2, SG, SV, SK, nI_add, nI_clamp, in_eq, eqI, m1, m2, m3, m4, c0, c1, c2, true_and, and_true, e_routerAt, e_cost, Nat.reduceLeDiff, true_implies, not_true_eq_false, not_false_eq_true, false_implies]
def mTA (p : RW) (r o k : Nat) : RW :=
  if k = 0 then (if gR p r 2 = nI o ∧ gR p r 0 < mBy p r o then up1 p (105 + 7 * r + 6) (nI 1) else p)
  else if k = 1 then (if gR p r 2 = nI o then up1 (up1 p (105 + 7 * r + 5) (gR p r 5 ||| sh1 o)) (105 + 7 * r + 6) (nI 1) else mSend p (nI 2) (nI r) (nI o) r)
  else mTL3 (up1 p (105 + 7 * r + 4) (gR p r 4 &&& (sh1 o ^^^ (-1)))) r
theorem up1_id {α : Type} (f : Nat → α) (k : Nat) : up1 f k (f k) = f := by funext j; unfold up1; split <;> simp_all
set_option maxHeartbeats 2000000 in
theorem e_takesActive (d r o k : Nat) (hr : r < 7) (ho : o < 7) (hk : k < 3) {h : MH} (hM : MoS h) (hQ : QL (hia h 275) 439) (hs : SU (gR (hia h 275) r 2)) (Q : RT) : callD (d + 8) 213 [.ref 273, .int (nI r), .int (nI o), .int (nI k)] h Q = Q none (sIA h 275 (mTA (hia h 275) r o k)) := by
  obtain ⟨m1, m2, m3, m4⟩ := hM.row
  have hQ2 := QL_mono hQ (M := 453) (by omega)
  rw [E_Mo_takesActive]
  unfold mTA
  have c : (gR (hia h 275) r 2 = nI o) ∨ ¬ (gR (hia h 275) r 2 = nI o) := Classical.em _
  rcases (show k = 0 ∨ k = 1 ∨ k = 2 by omega) with e | e | e <;> subst e
  · rw [if_pos rfl]
    rcases c with c | c
    · by_cases c2 : gR (hia h 275) r 0 < mBy (hia h 275) r o
      · rw [if_pos ⟨c, c2⟩]
        have c2' : ¬ mBy (hia h 275) r o ≤ gR (hia h 275) r 0 := Int32.not_le.mpr c2
        unfold gR at c c2'
        rw [Nat.add_zero] at c2'
        simp (disch := first | omega | exact hM) only [U_Mo_takesActive (cm _), SA, SB, SC1, SC2, SG, SV, SK, nI_add, nI_clamp, in_eq, eqI, m1, m2, m3, m4, c, c2', true_and, and_true, e_routerAt, e_by, up1_s, Nat.reduceLeDiff, Nat.one_ne_zero, true_implies, not_true_eq_false, not_false_eq_true, false_implies]
      · rw [if_neg (fun q => c2 q.2)]
        have c2' : mBy (hia h 275) r o ≤ gR (hia h 275) r 0 := Int32.not_lt.mp c2
        unfold gR at c c2'
        rw [Nat.add_zero] at c2'
        simp (disch := first | omega | exact hM) only [U_Mo_takesActive (cm _), SA, SB, SC1, SC2, SG, SV, SK, nI_add, nI_clamp, in_eq, eqI, m1, m2, m3, m4, c, c2', true_and, and_true, e_routerAt, e_by, up1_s, up1_id, id_275, Nat.reduceLeDiff, Nat.one_ne_zero, true_implies, not_true_eq_false, not_false_eq_true, false_implies]
    · rw [if_neg (fun q => c q.1)]
      unfold gR at c
      simp (disch := first | omega | exact hM) only [U_Mo_takesActive (cm _), SA, SB, SC1, SC2, SG, SV, SK, nI_add, nI_clamp, in_eq, eqI, m1, m2, m3, m4, c, true_and, and_true, e_routerAt, e_by, up1_s, up1_id, id_275, Nat.reduceLeDiff, Nat.one_ne_zero, true_implies, not_true_eq_false, not_false_eq_true, false_implies]
  · rw [if_neg (by omega), if_pos rfl]
    rcases c with c | c
    · rw [if_pos c]
      unfold gR at c
      simp (disch := first | omega | exact hM) only [U_Mo_takesActive (cm _), SA, SB, SC1, SC2, SG, SV, SK, nI_add, nI_clamp, in_eq, eqI, m1, m2, m3, m4, c, true_and, and_true, e_routerAt, up1_s, gR, sh1, Nat.reduceLeDiff, Nat.one_ne_zero, true_implies, not_true_eq_false, not_false_eq_true, false_implies]
    · rw [if_neg c]
      unfold gR at c
      simp (disch := first | omega | exact hM | exact hQ2) only [U_Mo_takesActive (cm _), SA, SB, SC1, SC2, SG, SV, SK, nI_add, nI_clamp, in_eq, eqI, m1, m2, m3, m4, c, true_and, and_true, e_routerAt, f_send, up1_s, Nat.reduceLeDiff, Nat.one_ne_zero, true_implies, not_true_eq_false, not_false_eq_true, false_implies]
  · rw [if_neg (by omega), if_neg (by omega)]
    unfold mTL3
    by_cases c2 : gR (up1 (hia h 275) (105 + 7 * r + 4) (gR (hia h 275) r 4 &&& (sh1 o ^^^ (-1)))) r 4 = nI 0
    · rw [if_pos c2]
      unfold gR sh1 at c2
      rw [up1_s] at c2
      rcases c with c | c <;> unfold gR at c <;> simp (disch := first | omega | exact hM | (simp only [SG, SK, MoS_s]; exact hM) | (simp (disch := omega) only [SG, SK, up1_s, nI_add, nI_clamp, QL_hia, hia_s, QL_up, gR_up]; first | exact hQ | exact hs)) only [U_Mo_takesActive (cm _), SA, SB, SC1, SC2, SG, SV, SK, nI_add, nI_clamp, in_eq, eqI, m1, m2, m3, m4, c, c2, true_and, and_true, e_routerAt, e_ends, up1_s, gR, sh1, Nat.reduceLeDiff, Nat.reduceEqDiff, true_implies, not_true_eq_false, not_false_eq_true, false_implies]
    · rw [if_neg c2]
      unfold gR sh1 at c2
      rw [up1_s] at c2
      rcases c with c | c <;> unfold gR at c <;> simp (disch := first | omega | exact hM) only [U_Mo_takesActive (cm _), SA, SB, SC1, SC2, SG, SV, SK, nI_add, nI_clamp, in_eq, eqI, m1, m2, m3, m4, c, c2, true_and, and_true, e_routerAt, up1_s, gR, sh1, Nat.reduceLeDiff, Nat.reduceEqDiff, true_implies, not_true_eq_false, not_false_eq_true, false_implies]
