/-! ===== parts ===== -/
theorem x_wordAt (d q k cl : Nat) {T : TP} {om : Nat} (hom : om ≤ 1) {h : MH} (r : RS h T om q k cl) (Q : RT) : callD (d + 2) 62 [.ref 213] h Q = Q (some (.int (if wAt T om q = 99 then -1 else nI (wAt T om q)))) h := by
  have s := r.1
  unfold XSr at s
  have h5 := r.2.2.2.2
  have W := fun x hx => x_hasWord d q x hx r.2.1
  have w8 := W 8 (by omega)
  have w9 := W 9 (by omega)
  have w10 := W 10 (by omega)
  have w11 := W 11 (by omega)
  have w12 := W 12 (by omega)
  have w13 := W 13 (by omega)
  have w14 := W 14 (by omega)
  have w15 := W 15 (by omega)
  have w5 := W 5 (by omega)
  have w16 := W 16 (by omega)
  have w17 := W 17 (by omega)
  have zn : ∀ n : Nat, n < 2 ^ 31 → (nI n = -1) = False := fun n hn => nI_m1 hn
  rw [E_Re_wordAt]
  unfold wAt
  rcases (show om = 0 ∨ om = 1 by omega) with rfl | rfl <;> cases b8 : bW T q 8 <;> cases b9 : bW T q 9 <;> simp only [b8, b9, b2_t, b2_f] at w8 w9 <;> simp (disch := omega) only [U_Re_wordAt (cm _), SA, SB, SC1, SC2, SG, SV, s, h5, w8, w9, nI_m1, eqI, Nat.one_ne_zero, if_true, if_false, Bool.false_eq_true, Nat.reduceEqDiff, true_or, or_true, true_implies, not_true_eq_false, not_false_eq_true, false_implies, true_and, and_true]
  all_goals sorry
