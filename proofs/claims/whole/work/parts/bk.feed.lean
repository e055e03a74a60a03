/-! ===== feed ===== -/
theorem byte_n (v : Int32) (k : Int32) : ∃ b, b < 256 ∧ (v >>> k) &&& nI 255 = nI b := by
  generalize v >>> k = x
  refine ⟨(x.toBitVec &&& 255#32).toNat, ?_, ?_⟩
  · have h : (x.toBitVec &&& 255#32).toNat = x.toBitVec.toNat &&& 255 := BitVec.toNat_and ..
    rw [h]
    exact Nat.lt_of_le_of_lt Nat.and_le_right (by omega)
  · apply Int32.toBitVec_inj.mp
    show x.toBitVec &&& (255 : BitVec 32) = BitVec.ofNat 32 (x.toBitVec &&& 255#32).toNat
    rw [BitVec.ofNat_toNat]
    simp
/-- a byte more on the program's tape -/
def tbX (h : MH) (n : Nat) (x : Int32) : MH := sFI (sIA h 215 (up1 (hia h 215) n x)) 214 (up1 (hfi h 214) 1 (nI (n + 1)))
theorem x_tk1 (d n : Nat) (s s' v : Int32) (hn : n < 400) (hge : ¬ s < nI 0) (hs : s + -8 = s') {h : MH} (sr : XSr h) (l : hfi h 214 1 = nI n) (Q : RT) (lm : Nat × Nat) : WP cd_Ta_takes (callD d) Q lm 3 [] [some (.ref 214), some (.int v), some (.int s)] h = WP cd_Ta_takes (callD d) Q lm 3 [] [some (.ref 214), some (.int v), some (.int s')] (tbX h n ((v >>> (s &&& 31)) &&& nI 255)) := by
  unfold XSr at sr
  conv => lhs; rw [U_Ta_takes_3 (cm _)]
  unfold tbX
  simp (disch := omega) only [U_Ta_takes (cm _), SA, SB, SC1, SC2, SG, SK, SV, SM, up1_s, sr, l, hge, hs, leI, show ¬ 400 ≤ n by omega, nI_add, nI_clamp, in_eq, Nat.reduceLeDiff, true_implies, not_true_eq_false, not_false_eq_true, false_implies, true_and, and_true]
