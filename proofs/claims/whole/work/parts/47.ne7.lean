theorem up1_same {α : Type} {f : Nat → α} {k : Nat} {x : α} (h : f k = x) : up1 f k x = f := by rw [← h]; exact up1_id f k
theorem mAct1_3 {p : RW} {r : Nat} {x ow : Int32} (hr : r < 7) (hs : SU (gR p r 2)) : mAct1 (up1 p (105 + 7 * r + 3) x) r ow = mAct1 p r ow := by
  unfold mAct1
  rw [gR_up (by omega)]
  have : (if gR p r 2 = -1 then nI 9999 else mBy (up1 p (105 + 7 * r + 3) x) r (gR p r 2).toNatClampNeg) = (if gR p r 2 = -1 then nI 9999 else mBy p r (gR p r 2).toNatClampNeg) := by
    rcases hs with e | ⟨o, ho, e⟩
    · rw [if_pos e, if_pos e]
    · rw [e, nI_clamp (by omega), mBy_up hr ho (by omega)]
  rw [this]
  simp (disch := omega) only [up1_c, up1_up1]
theorem mGo_3 {p : RW} {r : Nat} {x ow : Int32} (hr : r < 7) (hs : SU (gR p r 2)) : mGo (up1 p (105 + 7 * r + 3) x) r ow = mGo p r ow := by
  unfold mGo mAct2
  rw [mAct1_3 hr hs]
theorem itd_c {α : Type} {g k : α → Nat → α} {N : Nat} (h : ∀ x o, o < N → g x o = k x o) : ∀ (m : Nat) (x : α), m ≤ N → itd g m x = itd k m x
  | 0, _, _ => rfl
  | m + 1, x, hm => by rw [itd_s, itd_s, h x m (by omega)]; exact itd_c h m _ (by omega)
theorem mBest_c {p q : RW} {r : Nat} (h : ∀ o, o < 7 → gC p r o = gC q r o ∧ gT p r o = gT q r o) (h1 : gR p r 1 = gR q r 1) : mBest p r = mBest q r :=
  itd_c (N := 7) (fun x o ho => by rw [mLeast_c h, mBy_c (h o ho).1 (h o ho).2]; unfold mFeas; rw [(h o ho).1, (h o ho).2, h1]) 7 _ (by omega)
theorem mLow_c {p q : RW} {r : Nat} {v : Int32} (h : ∀ o, o < 7 → gC p r o = gC q r o ∧ gT p r o = gT q r o) : mLow p r v = mLow q r v :=
  itd_c (N := 7) (fun x o ho => by rw [mBy_c (h o ho).1 (h o ho).2]) 7 _ (by omega)
theorem mBest_up {p : RW} {r k : Nat} {v : Int32} (hr : r < 7) (h : 105 ≤ k) (h2 : ¬ 105 + 7 * r + 1 = k) : mBest (up1 p k v) r = mBest p r := mBest_c (fun o ho => ⟨gC_up (by omega), gT_up (by omega)⟩) (gR_up h2)
theorem mLow_up {p : RW} {r k : Nat} {v w : Int32} (hr : r < 7) (h : 105 ≤ k) : mLow (up1 p k v) r w = mLow p r w := mLow_c (fun o ho => ⟨gC_up (by omega), gT_up (by omega)⟩)
set_option maxHeartbeats 2000000 in
theorem y_ends (d n r : Nat) (hr : r < 7) {h0 h : MH} {p : RW} (X : XN h0 n h p) (hQ : QL p 413) (hC : CN p) (hs : SU (gR p r 2)) (hw : M7 (gR p r 5)) (h0w : mNb p r = nI 0 → gR p r 5 = nI 0) (Q : RT) (kk : ∀ h', XN h0 n h' (mEnds p r) → Q none h') : callD (d + 4) 39 [.ref n, .int (nI r)] h Q := by
  obtain ⟨sh, h24⟩ := X.2.1.all
  have n4 : 24 ≤ n + 4 := by omega
  have n5 : 24 ≤ n + 5 := by omega
  have n6 : 24 ≤ n + 6 := by omega
  have e3 := X.2.2.2.2.1 r hr
  have e4 := X.2.2.2.2.2.1 r hr
  have e5 := X.2.2.2.2.2.2.1 r hr
  have e8 := X.2.2.2.2.2.2.2.2.2.1 r hr
  obtain ⟨-, -, -, w6⟩ := X.2.2.2.2.2.2.2.2.2.2.2.2.2.1
  have e6 := w6 r hr
  have hq2 := hQ.2
  rw [E_Ne_ends]
  unfold mEnds at kk
  dsimp only at kk
  by_cases c : gR p r 6 = nI 0
  · rw [if_pos c] at kk
    unfold mEnd0 at kk
    rw [mLeast_up hr (by omega), mLow_up hr (by omega)] at kk
    obtain ⟨t1, t2⟩ := tl_nb p hC r hr
    by_cases g : mLow p r (mLeast p r) = -1
    · have T := t1.mpr g
      have tk : ∀ Q', callD (d + 3) 37 [.ref n, .int (nI r), .int (mNb p r)] h Q' = Q' (some (.int (nI 0))) h := fun Q' => by rw [x_takesLeast d n r hr (mNb p r) X.2.1 X.2.2, if_pos T]
      rw [g, low_far g] at kk
      have X1 := ((X.suc hr (-1)).dist hr (nI 9999)).bnd hr (nI 9999)
      have Y := fun Q lm => y_tail (d + 2) n r hr (gR p r 0) X1 (by rw [QL_up (by omega), QL_up (by omega), QL_up (by omega)]; exact hQ) (by rw [gR_up (by omega), gR_up (by omega), gR_up (by omega)]; exact hw) Q lm
      rw [up1_same (f := up1 (up1 (up1 (up1 p (105 + 7 * r + 2) (-1)) (105 + 7 * r + 0) (nI 9999)) (105 + 7 * r + 1) (nI 9999)) (105 + 7 * r + 3) (nI 0)) (k := 105 + 7 * r + 6) (x := nI 0) (by simp (disch := omega) only [up1_n]; exact c)] at Y
      have Y := Y Q (hcc h, hcu h) (fun h' X' => kk h' (by
        simp (disch := omega) only [Nat.add_zero, up1_c] at X' ⊢
        exact X'))
      simp (disch := omega) only [SG, SK, SM, sIA_c, up1_s, up1_n, up1_up1] at Y
      simp (disch := omega) only [U_Ne_ends (cm _), SA, SB, SC1, SC2, SG, SV, SK, SM, sIA_c, sh, e3, e4, e6, c, e_bit, tk, n4, n5, n6, nI_clamp, in_eq, up1_s, up1_n, up1_up1, true_implies, not_true_eq_false, not_false_eq_true, false_implies, and_true, true_and] at Y ⊢
      with_reducible exact Y
    · have T : ¬ ((tlR p r (mNb p r)).2.2 = -1 ∨ (tlR p r (mNb p r)).1 < (tlR p r (mNb p r)).2.1) := fun q => g (t1.mp q)
      obtain ⟨u1, u2, -⟩ := t2 g
      have tk : ∀ Q', callD (d + 3) 37 [.ref n, .int (nI r), .int (mNb p r)] h Q' = Q' (some (.int (nI 1))) (sIA (sIA h (n + 4) (up1 (hia h (n + 4)) r (mLeast p r))) (n + 6) (up1 (hia h (n + 6)) r (mLow p r (mLeast p r)))) := fun Q' => by rw [x_takesLeast d n r hr (mNb p r) X.2.1 X.2.2, if_neg T, u1, u2]
      have X1 := ((X.dist hr (mLeast p r)).suc hr (mLow p r (mLeast p r))).bnd hr (mLeast p r)
      have Y := fun Q lm => y_tail (d + 2) n r hr (gR p r 0) X1 (by rw [QL_up (by omega), QL_up (by omega), QL_up (by omega)]; exact hQ) (by rw [gR_up (by omega), gR_up (by omega), gR_up (by omega)]; exact hw) Q lm
      rw [up1_same (f := up1 (up1 (up1 (up1 p (105 + 7 * r + 0) (mLeast p r)) (105 + 7 * r + 2) (mLow p r (mLeast p r))) (105 + 7 * r + 1) (mLeast p r)) (105 + 7 * r + 3) (nI 0)) (k := 105 + 7 * r + 6) (x := nI 0) (by simp (disch := omega) only [up1_n]; exact c)] at Y
      have Y := Y Q (hcc h, hcu h) (fun h' X' => kk h' (by
        simp (disch := omega) only [Nat.add_zero, up1_c] at X' ⊢
        exact X'))
      simp (disch := omega) only [SG, SK, SM, sIA_c, up1_s, up1_n, up1_up1] at Y
      simp (disch := omega) only [U_Ne_ends (cm _), SA, SB, SC1, SC2, SG, SV, SK, SM, sIA_c, sh, e3, e4, e6, c, e_bit, tk, eqI, Nat.one_ne_zero, n4, n5, n6, nI_clamp, in_eq, up1_s, up1_n, up1_up1, true_implies, not_true_eq_false, not_false_eq_true, false_implies, and_true, true_and] at Y ⊢
      with_reducible exact Y
  · rw [if_neg c, mBest_up hr (by omega) (by omega)] at kk
    obtain ⟨t1, t2⟩ := tl_fs p r
    by_cases g : mBest p r = -1
    · rw [if_pos g, mGo_3 hr hs] at kk
      have T := t1.mpr g
      have tk : ∀ Q', callD (d + 3) 37 [.ref n, .int (nI r), .int (mFs p r)] h Q' = Q' (some (.int (nI 0))) h := fun Q' => by rw [x_takesLeast d n r hr (mFs p r) X.2.1 X.2.2, if_pos T]
      simp (disch := omega) only [U_Ne_ends (cm _), SA, SB, SC1, SC2, SG, SV, sh, e3, e4, e6, e8, c, e_bit, x_feasible (d + 2) n r hr X.2.1 X.2.2, tk, nI_clamp, in_eq, true_implies, not_true_eq_false, not_false_eq_true, false_implies, and_true, true_and]
      refine y_goesActive d n r hr _ X hQ hC hs h0w _ (fun h' X' => ?_)
      simp only [SV, U_Ne_ends (cm _), SA, SB]
      exact kk h' X'
    · rw [if_neg g] at kk
      have T : ¬ ((tlR p r (mFs p r)).2.2 = -1 ∨ (tlR p r (mFs p r)).1 < (tlR p r (mFs p r)).2.1) := fun q => g (t1.mp q)
      obtain ⟨u1, u2, j, hj, u3, u4⟩ := t2 g
      have tk : ∀ Q', callD (d + 3) 37 [.ref n, .int (nI r), .int (mFs p r)] h Q' = Q' (some (.int (nI 1))) (sIA (sIA h (n + 4) (up1 (hia h (n + 4)) r (mLeast p r))) (n + 6) (up1 (hia h (n + 6)) r (nI j))) := fun Q' => by rw [x_takesLeast d n r hr (mFs p r) X.2.1 X.2.2, if_neg T, u1, u2, u3]
      rw [u3, nI_clamp (by omega)] at kk
      unfold mTake at kk
      rw [mBy_up hr hj (by omega), u4, gR_up (by omega)] at kk
      have X1 := ((X.dist hr (mLeast p r)).suc hr (nI j)).bnd hr (if mLeast p r < gR p r 1 then mLeast p r else gR p r 1)
      have Y := y_tail (d + 2) n r hr (gR p r 0) X1 (by rw [QL_up (by omega), QL_up (by omega), QL_up (by omega)]; exact hQ) (by rw [gR_up (by omega), gR_up (by omega), gR_up (by omega)]; exact hw) Q (hcc h, hcu h) (fun h' X' => kk h' (by
        simp (disch := omega) only [Nat.add_zero, up1_c] at X' ⊢
        exact X'))
      simp (disch := omega) only [SG, SK, SM, sIA_c, up1_s, up1_n, up1_up1] at Y
      simp (disch := omega) only [U_Ne_ends (cm _), SA, SB, SC1, SC2, SG, SV, SK, SM, sIA_c, sh, e3, e4, e5, e6, c, e_bit, e_min, x_feasible (d + 2) n r hr X.2.1 X.2.2, tk, eqI, Nat.one_ne_zero, n4, n5, n6, nI_clamp, in_eq, up1_s, up1_n, up1_up1, true_implies, not_true_eq_false, not_false_eq_true, false_implies, and_true, true_and] at Y ⊢
      with_reducible exact Y
