/-- the queue's length is told, and at most N -/
def QL (p : RW) (N : Nat) : Prop := p 6 = nI (ql p) ∧ ql p ≤ N
theorem QL_of {p : RW} {n N : Nat} (h : p 6 = nI n) (hn : n ≤ N) (hN : N < 2 ^ 31) : QL p N := by
  have := ql_of h (by omega)
  exact ⟨by rw [this]; exact h, by omega⟩
theorem QL_eq {p q : RW} (h : p 6 = q 6) (N : Nat) : QL p N = QL q N := by unfold QL ql; rw [h]
theorem QL_up {p : RW} {j : Nat} {v : Int32} (h : ¬ 6 = j) (N : Nat) : QL (up1 p j v) N = QL p N := QL_eq (up1_n _ _ h) N
theorem QL_hia {h : MH} {p : RW} (N : Nat) : QL (hia (sIA h 275 p) 275) N = QL p N := by rw [hia_s]
theorem QL_take {p : RW} {r o : Nat} (N : Nat) : QL (mTake p r o) N = QL p N := by
  unfold mTake; rw [QL_up (by omega), QL_up (by omega), QL_up (by omega)]
theorem QL_end0 {p : RW} {r : Nat} (N : Nat) : QL (mEnd0 p r) N = QL p N := by
  unfold mEnd0; rw [QL_up (by omega), QL_up (by omega), QL_up (by omega)]
theorem QL_mono {p : RW} {N M : Nat} (h : QL p N) (hN : N ≤ M) : QL p M := ⟨h.1, Nat.le_trans h.2 hN⟩
theorem QL_send {p : RW} {k : Int32} {r : Nat} {set : Int32} {N : Nat} (h : QL p N) (hN : N < 900) : QL (mSendAll p k r set) (N + 7) := by
  have h1 := cnt_le set
  have h2 := h.2
  exact QL_of (mSendAll_6 h.1 (by omega)) (by omega) (by omega)
theorem f_sendAll (d f : Nat) (hf : f < 7) (kd set : Int32) {h : MH} (hM : MoS h) (hQ : QL (hia h 275) 453) (Q : RT) : callD (d + 3) 201 [.ref 273, .int kd, .int (nI f), .int set] h Q = Q none (sIA h 275 (mSendAll (hia h 275) kd f set)) := e_sendAll d f hf kd set hM hQ.1 hQ.2 Q
theorem f_send (d f : Nat) (hf : f < 7) (k t : Int32) {h : MH} (hM : MoS h) (hQ : QL (hia h 275) 453) (Q : RT) : callD (d + 2) 200 [.ref 273, .int k, .int (nI f), .int t] h Q = Q none (sIA h 275 (mSend (hia h 275) k (nI f) t f)) := e_send d f hf k t hM hQ.1 (Nat.le_trans hQ.2 (by omega)) Q
set_option maxHeartbeats 1000000 in
theorem t_ends (d r : Nat) (hr : r < 7) (had : Int32) (w : Value) {h : MH} (hM : MoS h) (hQ : QL (hia h 275) 446) (Q : RT) (lm : Nat × Nat) : WP cd_Mo_ends (callD (d + 4)) Q lm 120 [] [some (.ref 273), some (.int (nI r)), some (.int (nI (105 + 7 * r))), some (.int had), some w] h = Q none (sIA h 275 (mTail (hia h 275) r had)) := by
  obtain ⟨m1, m2, m3, m4⟩ := hM.row
  have hQ2 := QL_mono hQ (M := 453) (by omega)
  simp (disch := first | omega | exact hM | (simp only [MoS_s]; exact hM) | (simp (disch := omega) only [QL_hia, QL_up, QL_take, QL_end0]; exact hQ2)) only [U_Mo_ends (cm _), SA, SB, SC1, SC2, SG, SV, SK, pk_mul, nI_add, nI_clamp, in_eq, m1, m2, m3, m4, true_and, and_true, f_sendAll, up1_s, up1_n, Nat.reduceLeDiff]
  by_cases c : mSendAll (up1 (hia h 275) (105 + 7 * r + 5) (nI 0)) (nI 2) r (hia h 275 (105 + 7 * r + 5)) (105 + 7 * r) = had
  · simp only [c, mTail, gR, Nat.add_zero, if_true, true_implies, not_true_eq_false, not_false_eq_true, false_implies, and_true, true_and]
  · have hQ3 : QL (mSendAll (up1 (hia h 275) (105 + 7 * r + 5) (nI 0)) (nI 2) r (hia h 275 (105 + 7 * r + 5))) 453 := QL_send (N := 446) (by rw [QL_up (by omega)]; exact hQ) (by omega)
    simp (disch := first | omega | exact hM | (simp only [MoS_s]; exact hM) | (simp (disch := omega) only [QL_hia, QL_up, QL_take, QL_end0]; exact hQ3)) only [c, mTail, gR, Nat.add_zero, if_false, true_implies, not_true_eq_false, not_false_eq_true, false_implies, and_true, true_and, U_Mo_ends (cm _), SA, SB, SC1, SC2, SG, SV, SK, m1, e_neighbours, f_sendAll, up1_s]
set_option maxHeartbeats 1000000 in
/-- an end that looks at all of them -/
theorem e_ends0 (d r : Nat) (hr : r < 7) {h : MH} (hM : MoS h) (hQ : QL (hia h 275) 446) (h6 : gR (hia h 275) r 6 = nI 0) (Q : RT) : callD (d + 5) 206 [.ref 273, .int (nI r)] h Q = Q none (sIA h 275 (mTail (mEnd0 (up1 (hia h 275) (105 + 7 * r + 3) (nI 0)) r) r (gR (hia h 275) r 0))) := by
  obtain ⟨m1, m2, m3, m4⟩ := hM.row
  rw [E_Mo_ends]
  unfold gR at h6
  simp (disch := first | omega | exact hM | (simp only [MoS_s]; exact hM) | (simp (disch := omega) only [QL_hia, QL_up, QL_take, QL_end0]; exact hQ)) only [↓t_ends, U_Mo_ends (cm _), SA, SB, SC1, SC2, SG, SV, SK, pk_mul, nI_add, nI_clamp, in_eq, m1, m2, m3, m4, h6, true_and, and_true, e_routerAt, e_leastBy, e_lowestBy, up1_s, up1_n, Nat.reduceLeDiff, true_implies, not_true_eq_false, not_false_eq_true, false_implies, mEnd0, gR, Nat.add_zero]
theorem mAct1_lo {p : RW} {r : Nat} {ow : Int32} {j : Nat} (h : j < 105 ∨ 154 ≤ j) (hr : r < 7) : mAct1 p r ow j = p j := by
  unfold mAct1
  rw [up1_n _ _ (by omega), up1_n _ _ (by omega), up1_n _ _ (by omega), up1_n _ _ (by omega), up1_n _ _ (by omega)]
