/-! ===== the reference's acts, whole ===== -/
def ka (u : Nat → Int32) (p : RW) : Nat → Int32 := cpyF u p 31482 5 1749 0
theorem ka_bk (u : Nat → Int32) (p q : RW) : cpyF q (ka u p) 5 31482 1749 0 = bk p q := by
  funext j
  unfold cpyF bk
  by_cases c : 5 ≤ j ∧ j < 1754
  · rw [if_pos (by omega), if_pos c]
    unfold ka cpyF
    rw [if_pos (by omega), show 5 + (31482 + (j - 5) - 31482) = j by omega]
  · rw [if_neg (by omega), if_neg c]
/-- what an act leaves: put back, or remembered -/
def mFin (h : MH) (p q : RW) (u s : Nat → Int32) (n kd : Nat) : MH := if nI 400 < q 6 then sIA (sIA h 275 (bk p q)) 278 (ka u p) else sFI (sIA (sIA (sIA h 275 q) 278 (rmU (ka u p) n)) 279 (rmO s n (nI kd))) 273 (up1 (hfi h 273) 8 (nI (rmN n)))
theorem m_over (d n kd : Nat) (hn : n ≤ 16) {h : MH} {p q : RW} {u s : Nat → Int32} (hM : MoS h) (hs : hia h 279 = s) (h8 : hfi h 273 8 = nI n) (told : Int32) (Q : RT) : callD (d + 2) 138 [.ref 273, .int (nI kd), .int told] (sIA (sIA h 275 q) 278 (ka u p)) Q = Q (some (.int (ov p q told).1)) (mFin h p q u s n kd) := by
  obtain ⟨m1, m2, m3, m4⟩ := hM.row
  have R := e_remember d n hn (nI kd) (h := sIA (sIA h 275 q) 278 (ka u p)) hM h8
  have B := e_putBack d 18 (by omega) (h := sIA (sIA h 275 q) 278 (ka u p)) hM
  simp (disch := omega) only [SG, SK, SM, sIA_c, up1_s, up1_n, Nat.reduceMul, hs, ka_bk] at R B
  rw [E_Mo_over]
  unfold ov mFin
  by_cases c : nI 400 < q 6
  · have c' : ¬ q 6 ≤ nI 400 := Int32.not_le.mpr c
    rw [if_pos c, if_pos c]
    simp (disch := omega) only [U_Mo_over (cm _), SA, SB, SC1, SC2, SG, SV, SK, SM, m1, m2, m3, m4, B, c', nI_clamp, in_eq, up1_s, up1_n, true_implies, not_true_eq_false, not_false_eq_true, false_implies, true_and, and_true]
  · have c' : q 6 ≤ nI 400 := Int32.not_lt.mp c
    rw [if_neg c, if_neg c]
    simp (disch := omega) only [U_Mo_over (cm _), SA, SB, SC1, SC2, SG, SV, SK, SM, m1, m2, m3, m4, R, c', nI_clamp, in_eq, up1_s, up1_n, true_implies, not_true_eq_false, not_false_eq_true, false_implies, true_and, and_true]
theorem m_ka (d : Nat) {h : MH} (hM : MoS h) (Q : RT) : callD (d + 1) 135 [.ref 273, .int (nI 18)] h Q = Q none (sIA h 278 (ka (hia h 278) (hia h 275))) := e_keepAll d 18 (by omega) hM Q
theorem m_l157 (d a b n : Nat) (ha : a < 7) (hb : b < 7) (hab : a ≠ b) (hn : n ≤ 16) {h : MH} {p q : RW} {u s : Nat → Int32} (hM : MoS h) (hs : hia h 279 = s) (h8 : hfi h 273 8 = nI n) (w : WI q 402) (P : PL q a b) (c had : Int32) (Q : RT) (lm : Nat × Nat) : WP cd_Mo_linkNow (callD (d + 8)) Q lm 157 [] [some (.ref 273), some (.int (nI a)), some (.int (nI b)), some (.int c), some (.int had)] (sIA (sIA h 275 q) 278 (ka u p)) = Q (some (.int (ov p (mTL (mTL q a b) b a) had).1)) (mFin h p (mTL (mTL q a b) b a) u s n 0) := by
  have R1 := r_TL ha hb w (by omega) P.1 (P.2.2.1 a ha) P.2.2.2
  obtain ⟨n1, n2, n3⟩ := P.next ha hb hab R1
  have T1 := e_takesLink d a b ha hb (h := sIA (sIA h 275 q) 278 (ka u p)) hM (by rw [hia_n _ _ (by omega), hia_s]; exact QL_mono w.2.2.2 (by omega)) (by rw [hia_n _ _ (by omega), hia_s]; exact (w.1.2.2 a ha).2.1)
  have T2 := e_takesLink d b a hb ha (h := sIA (sIA h 275 (mTL q a b)) 278 (ka u p)) hM (by rw [hia_n _ _ (by omega), hia_s]; exact QL_mono R1.1.2.2.2 (by omega)) (by rw [hia_n _ _ (by omega), hia_s]; exact (R1.1.1.2.2 b hb).2.1)
  simp (disch := omega) only [SG, SK, SM, sIA_c, up1_s, up1_n] at T1 T2
  simp (disch := omega) only [U_Mo_linkNow (cm _), SA, SB, SC1, SC2, SG, SV, hM.1, T1, T2, m_over _ n 0 hn hM hs h8, true_and]
