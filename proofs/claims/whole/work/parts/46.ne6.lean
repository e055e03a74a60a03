/-! ===== the search beside the reference's ===== -/
theorem tl_fs (p : RW) (r : Nat) : ((tlR p r (mFs p r)).2.2 = -1 ∨ (tlR p r (mFs p r)).1 < (tlR p r (mFs p r)).2.1 ↔ mBest p r = -1) ∧ (¬ mBest p r = -1 → (tlR p r (mFs p r)).2.2 = mBest p r ∧ (tlR p r (mFs p r)).1 = mLeast p r ∧ ∃ j, j < 7 ∧ mBest p r = nI j ∧ mBy p r j = mLeast p r) :=
  tl_P p r (mFs p r) (P := fun o => mFeas p r o) (fun o ho => (mFs_b p r).2 o ho) (g := fun x o => if mLeast p r < nI 9999 ∧ mBy p r o = mLeast p r ∧ mFeas p r o then nI o else x) (fun x o h => if_pos h) (fun x o h => if_neg h)
theorem tl_nb (p : RW) (hC : CN p) (r : Nat) (hr : r < 7) : ((tlR p r (mNb p r)).2.2 = -1 ∨ (tlR p r (mNb p r)).1 < (tlR p r (mNb p r)).2.1 ↔ mLow p r (mLeast p r) = -1) ∧ (¬ mLow p r (mLeast p r) = -1 → (tlR p r (mNb p r)).2.2 = mLow p r (mLeast p r) ∧ (tlR p r (mNb p r)).1 = mLeast p r ∧ ∃ j, j < 7 ∧ mLow p r (mLeast p r) = nI j ∧ mBy p r j = mLeast p r) := by
  have key : ∀ o, (mLeast p r < nI 9999 ∧ mBy p r o = mLeast p r ∧ (o < 7 → nI 0 < gC p r o)) ↔ (mLeast p r < nI 9999 ∧ mBy p r o = mLeast p r) := by
    intro o
    refine ⟨fun q => ⟨q.1, q.2.1⟩, fun q => ⟨q.1, q.2, fun ho => ?_⟩⟩
    by_cases z : gC p r o = nI 0
    · have : mBy p r o = nI 9999 := by unfold mBy; rw [if_pos (Or.inl z)]
      rw [← q.2, this] at q
      exact absurd q.1 Int32.lt_irrefl
    · exact Int32.lt_of_le_of_ne (Int32.not_lt.mp (hC r o hr ho)) (fun e => z e.symm)
  exact tl_P p r (mNb p r) (P := fun o => o < 7 → nI 0 < gC p r o) (fun o ho => ((mNb_b p r).2 o ho).trans ⟨fun q _ => q, fun q => q ho⟩) (g := fun x o => if mLeast p r < nI 9999 ∧ mBy p r o = mLeast p r then nI o else x) (fun x o h => if_pos ((key o).mp h)) (fun x o h => if_neg (fun q => h ((key o).mpr q)))
theorem low_far {p : RW} {r : Nat} (h : mLow p r (mLeast p r) = -1) : mLeast p r = nI 9999 := by
  obtain ⟨-, ⟨a1, a2, a3⟩, -⟩ := tl_res p r (nI 0)
  rcases a3 with a | ⟨o, ho, a⟩
  · exact a
  · rcases itd_min (P := fun o => mLeast p r < nI 9999 ∧ mBy p r o = mLeast p r) (g := fun x o => if mLeast p r < nI 9999 ∧ mBy p r o = mLeast p r then nI o else x) (fun x o h => if_pos h) (fun x o h => if_neg h) 7 (-1) with ⟨j, j1, -, -, e⟩ | ⟨j1, -⟩
    · exact absurd (e.symm.trans h) (by rw [nI_m1 (by omega)]; exact id)
    · have n9 : (nI 9999).toInt = 9999 := by decide
      have := j1 o ho
      by_cases c : mLeast p r < nI 9999
      · exact absurd ⟨c, a.symm⟩ this
      · have c' := Int32.le_iff_toInt_le.mp (Int32.not_lt.mp c)
        exact Int32.toInt_inj.mp (by omega)
/-- behind what is decided: it ends -/
theorem y_tail (d n r : Nat) (hr : r < 7) (had : Int32) {h0 h : MH} {p : RW} (X : XN h0 n h p) (hQ : QL p 413) (hw : M7 (gR p r 5)) (Q : RT) (lm : Nat × Nat) (kk : ∀ h', XN h0 n h' (mTail (up1 (up1 p (105 + 7 * r + 3) (nI 0)) (105 + 7 * r + 6) (nI 0)) r had) → Q none h') : WP cd_Ne_ends (callD (d + 1)) Q lm 112 [] [some (.ref n), some (.int (nI r)), some (.int had)] h := by
  obtain ⟨sh, h24⟩ := X.2.1.all
  have n8 : 24 ≤ n + 8 := by omega
  have e8 := X.2.2.2.2.2.2.2.2.2.1 r hr
  have X1 := (X.act0 hr).wor0 hr
  have hq : up1 (up1 p (105 + 7 * r + 3) (nI 0)) (105 + 7 * r + 6) (nI 0) 6 = p 6 := by rw [up1_n _ _ (by omega), up1_n _ _ (by omega)]
  have hl : ql (up1 (up1 p (105 + 7 * r + 3) (nI 0)) (105 + 7 * r + 6) (nI 0)) = ql p := by unfold ql; rw [hq]
  have h5 : gR (up1 (up1 p (105 + 7 * r + 3) (nI 0)) (105 + 7 * r + 6) (nI 0)) r 5 = gR p r 5 := by rw [gR_up (by omega), gR_up (by omega)]
  have hcn := cnt_ann (mNb_b (up1 (up1 p (105 + 7 * r + 3) (nI 0)) (105 + 7 * r + 6) (nI 0)) r).1 hw
  have hq2 := hQ.2
  unfold mTail at kk
  dsimp only at kk
  rw [mSendAll_up (by omega) (by omega) (by omega), h5] at kk
  generalize hp1 : up1 (up1 p (105 + 7 * r + 3) (nI 0)) (105 + 7 * r + 6) (nI 0) = p1 at *
  unfold sh1 at X1
  simp (disch := omega) only [SG, SK, SM, up1_s, up1_n, up1_up1] at X1
  simp (disch := omega) only [U_Ne_ends (cm _), SA, SB, SC1, SC2, SG, SV, SK, SM, sh, e8, nI_clamp, in_eq, up1_s, up1_n, up1_up1, true_implies, not_true_eq_false, not_false_eq_true, false_implies, and_true, true_and]
  refine y_sends d n r hr _ _ X1 (by rw [hl, hq]; exact hQ.1) (by omega) _ (fun h' X2 => ?_)
  obtain ⟨sh, -⟩ := X2.2.1.all
  have e4 := X2.2.2.2.2.2.1 r hr
  have e3 := X2.2.2.2.2.1 r hr
  have e8 := X2.2.2.2.2.2.2.2.2.2.1 r hr
  have f5 : gR (mSendAll p1 (nI 2) r (gR p r 5)) r 5 = gR p r 5 := (gR_sall hr (by omega)).trans h5
  have fN : mNb (mSendAll p1 (nI 2) r (gR p r 5)) r = mNb p1 r := mNb_sall hr
  rw [f5] at e8
  rw [fN] at e3
  have hq6 := mSendAll_6 (k := nI 2) (r := r) (set := gR p r 5) (show p1 6 = nI (ql p) from hq.trans hQ.1) (by omega)
  have hql := ql_of hq6 (by omega)
  rw [gR_up (by omega)] at kk
  by_cases c : gR (mSendAll p1 (nI 2) r (gR p r 5)) r 0 = had
  · rw [if_pos c] at kk
    have X3 := X2.owd hr (nI 0)
    simp (disch := omega) only [SV, U_Ne_ends (cm _), SA, SB, SC1, SC2, SG, SK, SM, sh, e4, c, n8, nI_clamp, in_eq, up1_s, up1_n, up1_up1, true_implies, not_true_eq_false, not_false_eq_true, false_implies, and_true, true_and]
    exact kk _ X3
  · rw [if_neg c, mNb_up hr (by omega), fN, mSendAll_up (by omega) (by omega) (by omega)] at kk
    simp (disch := omega) only [SV, U_Ne_ends (cm _), SA, SB, SC1, SC2, SG, SK, SM, sh, e3, e4, e8, c, nI_clamp, in_eq, up1_s, up1_n, up1_up1, true_implies, not_true_eq_false, not_false_eq_true, false_implies, and_true, true_and]
    refine y_sends d n r hr _ _ X2 (by rw [hql]; exact hq6) (by rw [hql]; omega) _ (fun h'' X3 => ?_)
    obtain ⟨sh, -⟩ := X3.2.1.all
    have X4 := X3.owd hr (nI 0)
    simp (disch := omega) only [SV, U_Ne_ends (cm _), SA, SB, SC1, SC2, SG, SK, SM, sh, n8, nI_clamp, in_eq, up1_s, up1_n, up1_up1, true_implies, not_true_eq_false, not_false_eq_true, false_implies, and_true, true_and]
    exact kk _ X4
