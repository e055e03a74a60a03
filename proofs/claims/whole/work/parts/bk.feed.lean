/-! ===== feed ===== -/
theorem byte_n (v : Int32) (k : Int32) : ∃ b, b < 256 ∧ (v >>> k) &&& nI 255 = nI b := by
  generalize v >>> k = x
  refine ⟨(x.toBitVec &&& 255#32).toNat, ?_, ?_⟩
  · have h : (x.toBitVec &&& 255#32).toNat = x.toBitVec.toNat &&& 255 := BitVec.toNat_and ..
    rw [h]
    exact Nat.lt_of_le_of_lt Nat.and_le_right (by omega)
  · apply Int32.toBitVec_inj.mp
    show x.toBitVec &&& (255 : BitVec 32) = BitVec.ofNat 32 (x.toBitVec &&& 255#32).toNat
    rw [BitVec.ofNat_toNat]
    simp
/-- a byte more on the program's tape -/
def tbX (h : MH) (n : Nat) (x : Int32) : MH := sFI (sIA h 215 (up1 (hia h 215) n x)) 214 (up1 (hfi h 214) 1 (nI (n + 1)))
theorem x_tk1 (d n : Nat) (s s' v : Int32) (hn : n < 400) (hge : ¬ s < nI 0) (hs : s + -8 = s') {h : MH} (sr : XSr h) (l : hfi h 214 1 = nI n) (Q : RT) (lm : Nat × Nat) : WP cd_Ta_takes (callD d) Q lm 3 [] [some (.ref 214), some (.int v), some (.int s)] h = WP cd_Ta_takes (callD d) Q lm 3 [] [some (.ref 214), some (.int v), some (.int s')] (tbX h n ((v >>> (s &&& 31)) &&& nI 255)) := by
  unfold XSr at sr
  conv => lhs; rw [U_Ta_takes_3 (cm _)]
  unfold tbX
  simp (disch := omega) only [U_Ta_takes (cm _), SA, SB, SC1, SC2, SG, SK, SV, SM, up1_s, sr, l, hge, hs, leI, show ¬ 400 ≤ n by omega, nI_add, nI_clamp, in_eq, Nat.reduceLeDiff, true_implies, not_true_eq_false, not_false_eq_true, false_implies, true_and, and_true]
/-- a byte more on the reference's tape -/
def tbM (h : MH) (n : Nat) (x : Int32) : MH := sFI (sIA h 282 (up1 (hia h 282) n x)) 273 (up1 (hfi h 273) 13 (nI (n + 1)))
theorem m_fr1 (d n : Nat) (s s' v : Int32) (hn : n < 400) (hge : ¬ s < nI 0) (hs : s + -8 = s') {h : MH} (sr : MaS h) (l : hfi h 273 13 = nI n) (Q : RT) (lm : Nat × Nat) : WP cd_Mo_four (callD d) Q lm 3 [] [some (.ref 273), some (.int v), some (.int s)] h = WP cd_Mo_four (callD d) Q lm 3 [] [some (.ref 273), some (.int v), some (.int s')] (tbM h n ((v >>> (s &&& 31)) &&& nI 255)) := by
  unfold MaS at sr
  conv => lhs; rw [U_Mo_four_3 (cm _)]
  unfold tbM
  simp (disch := omega) only [U_Mo_four (cm _), SA, SB, SC1, SC2, SG, SK, SV, SM, up1_s, sr, l, hge, hs, nI_add, nI_clamp, in_eq, Nat.reduceLeDiff, true_implies, not_true_eq_false, not_false_eq_true, false_implies, true_and, and_true]
def byV (v s : Int32) : Nat := nn ((v >>> (s &&& 31)) &&& nI 255)
theorem byV_e (v s : Int32) : byV v s < 256 ∧ (v >>> (s &&& 31)) &&& nI 255 = nI (byV v s) := by
  obtain ⟨b, hb, e⟩ := byte_n v (s &&& 31)
  unfold byV
  rw [e, nn_n (by omega)]
  exact ⟨hb, rfl⟩
/-- a text with a byte more -/
def exT (T : TP) (b : Nat) : TP := (up1 T.1 T.2 b, T.2 + 1)
theorem TB_1 {f : Nat → Int32} {T : TP} {b : Nat} (t : TB f T) (hb : b < 256) (hn : T.2 < 400) : TB (up1 f T.2 (nI b)) (exT T b) := by
  refine ⟨by show T.2 + 1 ≤ 400; omega, fun i hi => ?_⟩
  have hi' : i < T.2 + 1 := hi
  show up1 f T.2 (nI b) i = nI (up1 T.1 T.2 b i) ∧ up1 T.1 T.2 b i < 256
  by_cases e : i = T.2
  · subst e
    rw [up1_s, up1_s]
    exact ⟨rfl, hb⟩
  · rw [up1_n _ _ e, up1_n _ _ e]
    exact t.2 i (by omega)
