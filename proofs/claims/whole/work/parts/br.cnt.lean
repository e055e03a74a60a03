/-! ===== count ===== -/
theorem itr_cg {α : Type} {f g : α → Nat → α} : ∀ (m k : Nat) (x : α), (∀ j, k ≤ j → j < k + m → ∀ a, f a j = g a j) → itr f k m x = itr g k m x
  | 0, _, _, _ => rfl
  | m + 1, k, x, h => by
    rw [itr_s, itr_s, h k (Nat.le_refl k) (by omega) x]
    exact itr_cg m (k + 1) _ (fun j h1 h2 => h j (by omega) (by omega))
def lkF (p : RW) (n : Int32) (r : Nat) : Int32 := n + mMany (mNb p r)
def acF (p : RW) (n : Int32) (r : Nat) : Int32 := n + gR p r 3
theorem x_l_lc (d : Nat) {h : MH} {p : RW} (hS : NeS h 26) (V : NeV h 26 p) (Q : RT) (lm : Nat × Nat) : ∀ (m k : Nat) (x : Int32), k + m = 7 → WP cd_Ne_linkCount (callD (d + 1)) Q lm 4 [] [some (.ref 26), some (.int x), some (.int (nI k))] h = Q (some (.int (itr (lkF p) k m x / nI 2))) h
  | 0, k, x, e => by
    have z2 : ¬ nI 2 = nI 0 := by decide
    rw [U_Ne_linkCount_4 (cm _), itr_0]
    simp (disch := omega) only [U_Ne_linkCount (cm _), SA, SB, SC1, SC2, SG, SK, SV, leI, show 7 ≤ k by omega, z2, true_or, or_true, true_implies, not_true_eq_false, not_false_eq_true, false_implies, true_and, and_true]
  | m + 1, k, x, e => by
    obtain ⟨sh, -⟩ := (hS).all
    simp only [Nat.reduceAdd] at sh
    have a3 := V.2.2.1 k (by omega)
    simp only [Nat.reduceAdd] at a3
    have B := fun h Q => e_bits d (mNb_b p k).1 h Q
    have ih := x_l_lc d hS V Q lm m (k + 1) (lkF p x k) (by omega)
    rw [U_Ne_linkCount_4 (cm _), itr_s, ← ih]
    unfold lkF
    simp (disch := omega) only [U_Ne_linkCount (cm _), SA, SB, SC1, SC2, SG, SK, SV, sh, a3, B, leI, show ¬ 7 ≤ k by omega, nI_add, nI_clamp, in_eq, Nat.reduceLeDiff, true_or, or_true, true_implies, not_true_eq_false, not_false_eq_true, false_implies, true_and, and_true]
theorem x_linkCount (d : Nat) {h : MH} {p : RW} (hS : NeS h 26) (V : NeV h 26 p) (Q : RT) : callD (d + 2) 22 [.ref 26] h Q = Q (some (.int (itr (lkF p) 0 7 (nI 0) / nI 2))) h := by
  have L := fun lm => x_l_lc d hS V Q lm 7 0 (nI 0) (by omega)
  rw [E_Ne_linkCount]
  simp only [U_Ne_linkCount (cm _), SA, SB, SG, SV, L]
theorem m_l_lk (d : Nat) {h : MH} {p : RW} (hM : MoS h) (hp : hia h 275 = p) (Q : RT) (lm : Nat × Nat) : ∀ (m k : Nat) (x : Int32), k + m = 7 → WP cd_Mo_links (callD (d + 2)) Q lm 4 [] [some (.ref 273), some (.int x), some (.int (nI k))] h = Q (some (.int (itr (lkF p) k m x / nI 2))) h
  | 0, k, x, e => by
    have z2 : ¬ nI 2 = nI 0 := by decide
    rw [U_Mo_links_4 (cm _), itr_0]
    simp (disch := omega) only [U_Mo_links (cm _), SA, SB, SC1, SC2, SG, SK, SV, leI, show 7 ≤ k by omega, z2, true_or, or_true, true_implies, not_true_eq_false, not_false_eq_true, false_implies, true_and, and_true]
  | m + 1, k, x, e => by
    have k8 := hM.1
    have NB := fun Q => e_neighbours d k (by omega) hM Q
    rw [hp] at NB
    have MY := fun y Q => e_many (d + 1) y (h := h) Q
    have ih := m_l_lk d hM hp Q lm m (k + 1) (lkF p x k) (by omega)
    rw [U_Mo_links_4 (cm _), itr_s, ← ih]
    unfold lkF
    simp (disch := omega) only [U_Mo_links (cm _), SA, SB, SC1, SC2, SG, SK, SV, k8, NB, MY, leI, show ¬ 7 ≤ k by omega, nI_add, true_or, or_true, true_implies, not_true_eq_false, not_false_eq_true, false_implies, true_and, and_true]
theorem m_links (d : Nat) {h : MH} {p : RW} (hM : MoS h) (hp : hia h 275 = p) (Q : RT) : callD (d + 3) 247 [.ref 273] h Q = Q (some (.int (itr (lkF p) 0 7 (nI 0) / nI 2))) h := by
  have L := fun lm => m_l_lk d hM hp Q lm 7 0 (nI 0) (by omega)
  rw [E_Mo_links]
  simp only [U_Mo_links (cm _), SA, SB, SG, SV, L]
theorem m_l_ac (d : Nat) {h : MH} {p : RW} (hM : MoS h) (hp : hia h 275 = p) (Q : RT) (lm : Nat × Nat) : ∀ (m k : Nat) (x : Int32), k + m = 7 → WP cd_Mo_actives (callD (d + 1)) Q lm 4 [] [some (.ref 273), some (.int x), some (.int (nI k))] h = Q (some (.int (itr (acF p) k m x))) h
  | 0, k, x, e => by
    rw [U_Mo_actives_4 (cm _), itr_0]
    simp (disch := omega) only [U_Mo_actives (cm _), SA, SB, SC1, SC2, SG, SK, SV, leI, show 7 ≤ k by omega, true_or, or_true, true_implies, not_true_eq_false, not_false_eq_true, false_implies, true_and, and_true]
  | m + 1, k, x, e => by
    obtain ⟨k8, r2, r3, r4⟩ := hM.row
    have RA := fun h Q => e_routerAt d k (by omega) h Q
    have g3 : hia h 275 (105 + 7 * k + 3) = gR p k 3 := by rw [hp]; rfl
    have ih := m_l_ac d hM hp Q lm m (k + 1) (acF p x k) (by omega)
    rw [U_Mo_actives_4 (cm _), itr_s, ← ih]
    unfold acF
    simp (disch := omega) only [U_Mo_actives (cm _), SA, SB, SC1, SC2, SG, SK, SV, k8, r2, r3, r4, RA, g3, leI, show ¬ 7 ≤ k by omega, nI_add, nI_clamp, in_eq, Nat.reduceLeDiff, true_or, or_true, true_implies, not_true_eq_false, not_false_eq_true, false_implies, true_and, and_true]
theorem m_actives (d : Nat) {h : MH} {p : RW} (hM : MoS h) (hp : hia h 275 = p) (Q : RT) : callD (d + 2) 248 [.ref 273] h Q = Q (some (.int (itr (acF p) 0 7 (nI 0)))) h := by
  have L := fun lm => m_l_ac d hM hp Q lm 7 0 (nI 0) (by omega)
  rw [E_Mo_actives]
  simp only [U_Mo_actives (cm _), SA, SB, SG, SV, L]
theorem ac_many {x : Int32} {p : RW} (b : bits7 x p 3) : mMany x = itr (acF p) 0 7 (nI 0) := by
  obtain ⟨m, -, -, h⟩ := b
  exact itr_cg 7 0 _ (fun j _ hj a => by show a + bt x j = a + gR p j 3; rw [h j (by omega)])
theorem x_term (d w : Nat) (hw : w < 3) {h : MH} (s : XS h) (Q : RT) : callD (d + 1) 76 [.ref 25, .int (nI w)] h Q = Q (some (.int (if w = 0 then hfi h 26 12 else if w = 1 then hfi h 25 7 else hfi h 25 8))) h := by
  have sw := WoS_25 (s)
  unfold WoS at sw
  simp only [Nat.reduceAdd] at sw
  have k2 := s.2.2.2.2.2.1.1.1
  rw [E_Wo_term]
  rcases (show w = 0 ∨ w = 1 ∨ w = 2 by omega) with rfl | rfl | rfl
  · simp (disch := omega) only [U_Wo_term (cm _), SA, SB, SC1, SC2, SG, SK, SV, sw, k2, eqI, if_true, true_or, or_true, true_implies, not_true_eq_false, not_false_eq_true, false_implies, true_and, and_true]
  · simp (disch := omega) only [U_Wo_term (cm _), SA, SB, SC1, SC2, SG, SK, SV, sw, k2, eqI, Nat.one_ne_zero, if_true, if_false, true_or, or_true, true_implies, not_true_eq_false, not_false_eq_true, false_implies, true_and, and_true]
  · simp (disch := omega) only [U_Wo_term (cm _), SA, SB, SC1, SC2, SG, SK, SV, sw, k2, eqI, Nat.reduceEqDiff, if_true, if_false, true_or, or_true, true_implies, not_true_eq_false, not_false_eq_true, false_implies, true_and, and_true]
theorem m_termAt (d w : Nat) (hw : w < 3) (h : MH) (Q : RT) : callD (d + 1) 156 [.int (nI w)] h Q = Q (some (.int (nI (if w = 0 then 5 else if w = 1 then 3 else 4)))) h := by
  rw [E_Mo_termAt]
  rcases (show w = 0 ∨ w = 1 ∨ w = 2 by omega) with rfl | rfl | rfl
  · simp (disch := omega) only [U_Mo_termAt (cm _), SA, SB, SC1, SC2, SG, SK, SV, eqI, if_true, true_or, or_true, true_implies, not_true_eq_false, not_false_eq_true, false_implies, true_and, and_true]
  · simp (disch := omega) only [U_Mo_termAt (cm _), SA, SB, SC1, SC2, SG, SK, SV, eqI, Nat.one_ne_zero, if_true, if_false, true_or, or_true, true_implies, not_true_eq_false, not_false_eq_true, false_implies, true_and, and_true]
  · simp (disch := omega) only [U_Mo_termAt (cm _), SA, SB, SC1, SC2, SG, SK, SV, eqI, Nat.reduceEqDiff, if_true, if_false, true_or, or_true, true_implies, not_true_eq_false, not_false_eq_true, false_implies, true_and, and_true]
def ctV (h : MH) (w : Nat) : Int32 := if w = 0 then itr (lkF (hia h 275)) 0 7 (nI 0) / nI 2 else if w = 1 then itr (acF (hia h 275)) 0 7 (nI 0) else if w = 2 then hia h 275 6 else if w = 3 then hia h 275 0 else if w = 4 then hia h 275 1 else if w = 5 then hfi h 273 8 else if w = 6 then hfi h 273 13 else if w = 7 then hia h 274 1 else if w = 8 then hia h 274 2 else if w = 9 then hia h 274 3 else if w = 10 then hia h 274 5 else if w = 11 then hia h 274 6 else if w = 12 then hia h 275 2 else if w = 13 then hia h 275 5 else if w = 14 then hia h 275 3 else hia h 275 4
theorem x_count (d w : Nat) (hw : w ≤ 15) {h : MH} (g : GI h) (Q : RT) : callD (d + 3) 111 [.ref 24, .int (nI w)] h Q = Q (some (.int (ctV h w))) h := by
  have so := (g.1).1
  unfold XSo at so
  have sw := WoS_25 (g.1)
  unfold WoS at sw
  simp only [Nat.reduceAdd] at sw
  have hS := g.1.2.2.2.2.2.1.1
  have k2 := hS.1
  have sr := g.1.2.1
  unfold XSr at sr
  have sh := g.1.2.2.1
  unfold XSh at sh
  obtain ⟨V, iv, ⟨w4, w5, w6, w7, w8⟩, -⟩ := g.2.2.2.1
  obtain ⟨nx, n, -, -, -, q4, q5, -⟩ := g.2.2.2.2.1
  have q6 : hfi h 40 3 = hfi h 273 8 := q4.trans q5.symm
  obtain ⟨T, -, -, t3, t4⟩ := g.2.2.2.2.2.2.2.1
  have t5 : hfi h 214 1 = hfi h 273 13 := t3.trans t4.symm
  obtain ⟨⟨c1, c2, c3, c4, c5⟩, -⟩ := g.2.2.2.2.2.2.1
  have LC := fun Q => x_linkCount (d + 0) hS V Q
  have v10 : hfi h 26 9 = hia h 275 6 := V.2.2.2.2.2.2.2.2.2.1
  have v11 := V.2.2.2.2.2.2.2.2.2.2.1
  have v13 : hfi h 26 12 = hia h 275 5 := V.2.2.2.2.2.2.2.2.2.2.2.2
  have am := ac_many v11
  obtain ⟨am1, am2, am3, -⟩ := v11
  have BI := fun h' Q => e_bits (d + 1) (x := hfi h 26 10) ⟨am1, am2, am3⟩ h' Q
  rw [am] at BI
  have TE := fun k hk Q => x_term (d + 1) k hk g.1 Q
  rw [v13, w7, w8] at TE
  have T0 := fun Q => TE 0 (by omega) Q
  have T1 := fun Q => TE 1 (by omega) Q
  have T2 := fun Q => TE 2 (by omega) Q
  simp only [Nat.reduceEqDiff, Nat.one_ne_zero, eq_self, if_true, if_false] at T0 T1 T2
  clear TE
  rw [E_Di_count]
  unfold ctV
  rcases (show w = 0 ∨ w = 1 ∨ w = 2 ∨ w = 3 ∨ w = 4 ∨ w = 5 ∨ w = 6 ∨ w = 7 ∨ w = 8 ∨ w = 9 ∨ w = 10 ∨ w = 11 ∨ w = 12 ∨ w = 13 ∨ w = 14 ∨ w = 15 by omega) with rfl | rfl | rfl | rfl | rfl | rfl | rfl | rfl | rfl | rfl | rfl | rfl | rfl | rfl | rfl | rfl
  · simp only [Nat.reduceEqDiff, Nat.one_ne_zero, eq_self, if_true, if_false]
    simp (disch := omega) only [U_Di_count (cm _), SA, SB, SC1, SC2, SG, SK, SV, ltI, leI, Nat.reduceLT, Nat.reduceLeDiff, true_or, or_true, true_implies, not_true_eq_false, not_false_eq_true, false_implies, true_and, and_true]
    rw [tsw_hit 0 (by decide) (by decide)]
    simp (disch := omega) only [U_Di_count (cm _), SA, SB, SC1, SC2, SG, SK, SV, List.getD_cons_zero, List.getD_cons_succ, so, sw, sr, sh, k2, LC, BI, v10, w6, w4, w5, q6, t5, nI_clamp, in_eq, Nat.reduceLeDiff, true_or, or_true, true_implies, not_true_eq_false, not_false_eq_true, false_implies, true_and, and_true]
  · simp only [Nat.reduceEqDiff, Nat.one_ne_zero, eq_self, if_true, if_false]
    simp (disch := omega) only [U_Di_count (cm _), SA, SB, SC1, SC2, SG, SK, SV, ltI, leI, Nat.reduceLT, Nat.reduceLeDiff, true_or, or_true, true_implies, not_true_eq_false, not_false_eq_true, false_implies, true_and, and_true]
    rw [tsw_hit 1 (by decide) (by decide)]
    simp (disch := omega) only [U_Di_count (cm _), SA, SB, SC1, SC2, SG, SK, SV, List.getD_cons_zero, List.getD_cons_succ, so, sw, sr, sh, k2, LC, BI, v10, w6, w4, w5, q6, t5, nI_clamp, in_eq, Nat.reduceLeDiff, true_or, or_true, true_implies, not_true_eq_false, not_false_eq_true, false_implies, true_and, and_true]
  · simp only [Nat.reduceEqDiff, Nat.one_ne_zero, eq_self, if_true, if_false]
    simp (disch := omega) only [U_Di_count (cm _), SA, SB, SC1, SC2, SG, SK, SV, ltI, leI, Nat.reduceLT, Nat.reduceLeDiff, true_or, or_true, true_implies, not_true_eq_false, not_false_eq_true, false_implies, true_and, and_true]
    rw [tsw_hit 2 (by decide) (by decide)]
    simp (disch := omega) only [U_Di_count (cm _), SA, SB, SC1, SC2, SG, SK, SV, List.getD_cons_zero, List.getD_cons_succ, so, sw, sr, sh, k2, LC, BI, v10, w6, w4, w5, q6, t5, nI_clamp, in_eq, Nat.reduceLeDiff, true_or, or_true, true_implies, not_true_eq_false, not_false_eq_true, false_implies, true_and, and_true]
  · simp only [Nat.reduceEqDiff, Nat.one_ne_zero, eq_self, if_true, if_false]
    simp (disch := omega) only [U_Di_count (cm _), SA, SB, SC1, SC2, SG, SK, SV, ltI, leI, Nat.reduceLT, Nat.reduceLeDiff, true_or, or_true, true_implies, not_true_eq_false, not_false_eq_true, false_implies, true_and, and_true]
    rw [tsw_hit 3 (by decide) (by decide)]
    simp (disch := omega) only [U_Di_count (cm _), SA, SB, SC1, SC2, SG, SK, SV, List.getD_cons_zero, List.getD_cons_succ, so, sw, sr, sh, k2, LC, BI, v10, w6, w4, w5, q6, t5, nI_clamp, in_eq, Nat.reduceLeDiff, true_or, or_true, true_implies, not_true_eq_false, not_false_eq_true, false_implies, true_and, and_true]
  · simp only [Nat.reduceEqDiff, Nat.one_ne_zero, eq_self, if_true, if_false]
    simp (disch := omega) only [U_Di_count (cm _), SA, SB, SC1, SC2, SG, SK, SV, ltI, leI, Nat.reduceLT, Nat.reduceLeDiff, true_or, or_true, true_implies, not_true_eq_false, not_false_eq_true, false_implies, true_and, and_true]
    rw [tsw_hit 4 (by decide) (by decide)]
    simp (disch := omega) only [U_Di_count (cm _), SA, SB, SC1, SC2, SG, SK, SV, List.getD_cons_zero, List.getD_cons_succ, so, sw, sr, sh, k2, LC, BI, v10, w6, w4, w5, q6, t5, nI_clamp, in_eq, Nat.reduceLeDiff, true_or, or_true, true_implies, not_true_eq_false, not_false_eq_true, false_implies, true_and, and_true]
  · simp only [Nat.reduceEqDiff, Nat.one_ne_zero, eq_self, if_true, if_false]
    simp (disch := omega) only [U_Di_count (cm _), SA, SB, SC1, SC2, SG, SK, SV, ltI, leI, Nat.reduceLT, Nat.reduceLeDiff, true_or, or_true, true_implies, not_true_eq_false, not_false_eq_true, false_implies, true_and, and_true]
    rw [tsw_hit 5 (by decide) (by decide)]
    simp (disch := omega) only [U_Di_count (cm _), SA, SB, SC1, SC2, SG, SK, SV, List.getD_cons_zero, List.getD_cons_succ, so, sw, sr, sh, k2, LC, BI, v10, w6, w4, w5, q6, t5, nI_clamp, in_eq, Nat.reduceLeDiff, true_or, or_true, true_implies, not_true_eq_false, not_false_eq_true, false_implies, true_and, and_true]
  · simp only [Nat.reduceEqDiff, Nat.one_ne_zero, eq_self, if_true, if_false]
    simp (disch := omega) only [U_Di_count (cm _), SA, SB, SC1, SC2, SG, SK, SV, ltI, leI, Nat.reduceLT, Nat.reduceLeDiff, true_or, or_true, true_implies, not_true_eq_false, not_false_eq_true, false_implies, true_and, and_true]
    rw [tsw_hit 6 (by decide) (by decide)]
    simp (disch := omega) only [U_Di_count (cm _), SA, SB, SC1, SC2, SG, SK, SV, List.getD_cons_zero, List.getD_cons_succ, so, sw, sr, sh, k2, LC, BI, v10, w6, w4, w5, q6, t5, nI_clamp, in_eq, Nat.reduceLeDiff, true_or, or_true, true_implies, not_true_eq_false, not_false_eq_true, false_implies, true_and, and_true]
  · simp only [Nat.reduceEqDiff, Nat.one_ne_zero, eq_self, if_true, if_false]
    simp (disch := omega) only [U_Di_count (cm _), SA, SB, SC1, SC2, SG, SK, SV, so, ltI, leI, pk_sub, c1, c2, c3, c4, c5, nI_clamp, in_eq, Nat.reduceSub, Nat.reduceLT, Nat.reduceLeDiff, true_or, or_true, true_implies, not_true_eq_false, not_false_eq_true, false_implies, true_and, and_true]
  · simp only [Nat.reduceEqDiff, Nat.one_ne_zero, eq_self, if_true, if_false]
    simp (disch := omega) only [U_Di_count (cm _), SA, SB, SC1, SC2, SG, SK, SV, so, ltI, leI, pk_sub, c1, c2, c3, c4, c5, nI_clamp, in_eq, Nat.reduceSub, Nat.reduceLT, Nat.reduceLeDiff, true_or, or_true, true_implies, not_true_eq_false, not_false_eq_true, false_implies, true_and, and_true]
  · simp only [Nat.reduceEqDiff, Nat.one_ne_zero, eq_self, if_true, if_false]
    simp (disch := omega) only [U_Di_count (cm _), SA, SB, SC1, SC2, SG, SK, SV, so, ltI, leI, pk_sub, c1, c2, c3, c4, c5, nI_clamp, in_eq, Nat.reduceSub, Nat.reduceLT, Nat.reduceLeDiff, true_or, or_true, true_implies, not_true_eq_false, not_false_eq_true, false_implies, true_and, and_true]
  · simp only [Nat.reduceEqDiff, Nat.one_ne_zero, eq_self, if_true, if_false]
    simp (disch := omega) only [U_Di_count (cm _), SA, SB, SC1, SC2, SG, SK, SV, so, ltI, leI, pk_sub, c1, c2, c3, c4, c5, nI_clamp, in_eq, Nat.reduceSub, Nat.reduceLT, Nat.reduceLeDiff, true_or, or_true, true_implies, not_true_eq_false, not_false_eq_true, false_implies, true_and, and_true]
  · simp only [Nat.reduceEqDiff, Nat.one_ne_zero, eq_self, if_true, if_false]
    simp (disch := omega) only [U_Di_count (cm _), SA, SB, SC1, SC2, SG, SK, SV, so, ltI, leI, pk_sub, c1, c2, c3, c4, c5, nI_clamp, in_eq, Nat.reduceSub, Nat.reduceLT, Nat.reduceLeDiff, true_or, or_true, true_implies, not_true_eq_false, not_false_eq_true, false_implies, true_and, and_true]
  · simp only [Nat.reduceEqDiff, Nat.one_ne_zero, eq_self, if_true, if_false]
    simp (disch := omega) only [U_Di_count (cm _), SA, SB, SC1, SC2, SG, SK, SV, ltI, leI, Nat.reduceLT, Nat.reduceLeDiff, true_or, or_true, true_implies, not_true_eq_false, not_false_eq_true, false_implies, true_and, and_true]
    rw [tsw_hit 12 (by decide) (by decide)]
    simp (disch := omega) only [U_Di_count (cm _), SA, SB, SC1, SC2, SG, SK, SV, List.getD_cons_zero, List.getD_cons_succ, so, sw, sr, sh, k2, LC, BI, v10, w6, w4, w5, q6, t5, nI_clamp, in_eq, Nat.reduceLeDiff, true_or, or_true, true_implies, not_true_eq_false, not_false_eq_true, false_implies, true_and, and_true]
  · simp only [Nat.reduceEqDiff, Nat.one_ne_zero, eq_self, if_true, if_false]
    simp (disch := omega) only [U_Di_count (cm _), SA, SB, SC1, SC2, SG, SK, SV, so, sw, ltI, leI, pk_sub, T0, T1, T2, nI_clamp, in_eq, Nat.reduceSub, Nat.reduceLT, Nat.reduceLeDiff, true_or, or_true, true_implies, not_true_eq_false, not_false_eq_true, false_implies, true_and, and_true]
  · simp only [Nat.reduceEqDiff, Nat.one_ne_zero, eq_self, if_true, if_false]
    simp (disch := omega) only [U_Di_count (cm _), SA, SB, SC1, SC2, SG, SK, SV, so, sw, ltI, leI, pk_sub, T0, T1, T2, nI_clamp, in_eq, Nat.reduceSub, Nat.reduceLT, Nat.reduceLeDiff, true_or, or_true, true_implies, not_true_eq_false, not_false_eq_true, false_implies, true_and, and_true]
  · simp only [Nat.reduceEqDiff, Nat.one_ne_zero, eq_self, if_true, if_false]
    simp (disch := omega) only [U_Di_count (cm _), SA, SB, SC1, SC2, SG, SK, SV, so, sw, ltI, leI, pk_sub, T0, T1, T2, nI_clamp, in_eq, Nat.reduceSub, Nat.reduceLT, Nat.reduceLeDiff, true_or, or_true, true_implies, not_true_eq_false, not_false_eq_true, false_implies, true_and, and_true]
theorem m_count (d w : Nat) (hw : w ≤ 15) {h : MH} (hM : MoS h) (Q : RT) : callD (d + 4) 249 [.ref 273, .int (nI w)] h Q = Q (some (.int (ctV h w))) (thH h) := by
  have k8 := hM.1
  obtain ⟨hM2, ei2, ef2, kp⟩ := thM hM
  have f8 := ef2 8 (by omega)
  have f13 := ef2 13 (by omega)
  have LK := fun Q => m_links d hM2 (p := hia h 275) (by rw [ei2]) Q
  have AC := fun Q => m_actives (d + 1) hM2 (p := hia h 275) (by rw [ei2]) Q
  have T0 := fun h Q => m_termAt (d + 2) 0 (by omega) h Q
  have T1 := fun h Q => m_termAt (d + 2) 1 (by omega) h Q
  have T2 := fun h Q => m_termAt (d + 2) 2 (by omega) h Q
  simp only [Nat.reduceEqDiff, Nat.one_ne_zero, eq_self, if_true, if_false] at T0 T1 T2
  have IN := fun h Q => e_in (d + 2) (nI w).toInt64 (lN 13) (lN 15) h Q
  generalize hh : thH h = h2 at *
  unfold thH at hh
  obtain ⟨k82, r2, r3, r4⟩ := hM2.row
  obtain ⟨-, ⟨u1, u2, u3⟩, -⟩ := id hM2
  rw [E_Mo_count]
  unfold ctV
  rw [← ei2, ← f8, ← f13]
  rw [← ei2] at LK AC
  rcases (show w = 0 ∨ w = 1 ∨ w = 2 ∨ w = 3 ∨ w = 4 ∨ w = 5 ∨ w = 6 ∨ w = 7 ∨ w = 8 ∨ w = 9 ∨ w = 10 ∨ w = 11 ∨ w = 12 ∨ w = 13 ∨ w = 14 ∨ w = 15 by omega) with rfl | rfl | rfl | rfl | rfl | rfl | rfl | rfl | rfl | rfl | rfl | rfl | rfl | rfl | rfl | rfl
  · simp only [Nat.reduceEqDiff, Nat.one_ne_zero, eq_self, if_true, if_false]
    simp (disch := omega) only [U_Mo_count (cm _), SA, SB, SC1, SC2, SG, SK, SV, hh, k8, true_or, or_true, true_implies, not_true_eq_false, not_false_eq_true, false_implies, true_and, and_true]
    rw [tsw_hit 0 (by decide) (by decide)]
    simp (disch := omega) only [U_Mo_count (cm _), SA, SB, SC1, SC2, SG, SK, SV, List.getD_cons_zero, List.getD_cons_succ, k82, r2, r3, r4, u1, u2, u3, LK, AC, nI_clamp, in_eq, Nat.reduceLeDiff, true_or, or_true, true_implies, not_true_eq_false, not_false_eq_true, false_implies, true_and, and_true]
  · simp only [Nat.reduceEqDiff, Nat.one_ne_zero, eq_self, if_true, if_false]
    simp (disch := omega) only [U_Mo_count (cm _), SA, SB, SC1, SC2, SG, SK, SV, hh, k8, true_or, or_true, true_implies, not_true_eq_false, not_false_eq_true, false_implies, true_and, and_true]
    rw [tsw_hit 1 (by decide) (by decide)]
    simp (disch := omega) only [U_Mo_count (cm _), SA, SB, SC1, SC2, SG, SK, SV, List.getD_cons_zero, List.getD_cons_succ, k82, r2, r3, r4, u1, u2, u3, LK, AC, nI_clamp, in_eq, Nat.reduceLeDiff, true_or, or_true, true_implies, not_true_eq_false, not_false_eq_true, false_implies, true_and, and_true]
  · simp only [Nat.reduceEqDiff, Nat.one_ne_zero, eq_self, if_true, if_false]
    simp (disch := omega) only [U_Mo_count (cm _), SA, SB, SC1, SC2, SG, SK, SV, hh, k8, true_or, or_true, true_implies, not_true_eq_false, not_false_eq_true, false_implies, true_and, and_true]
    rw [tsw_hit 2 (by decide) (by decide)]
    simp (disch := omega) only [U_Mo_count (cm _), SA, SB, SC1, SC2, SG, SK, SV, List.getD_cons_zero, List.getD_cons_succ, k82, r2, r3, r4, u1, u2, u3, LK, AC, nI_clamp, in_eq, Nat.reduceLeDiff, true_or, or_true, true_implies, not_true_eq_false, not_false_eq_true, false_implies, true_and, and_true]
  · simp only [Nat.reduceEqDiff, Nat.one_ne_zero, eq_self, if_true, if_false]
    simp (disch := omega) only [U_Mo_count (cm _), SA, SB, SC1, SC2, SG, SK, SV, hh, k8, true_or, or_true, true_implies, not_true_eq_false, not_false_eq_true, false_implies, true_and, and_true]
    rw [tsw_hit 3 (by decide) (by decide)]
    simp (disch := omega) only [U_Mo_count (cm _), SA, SB, SC1, SC2, SG, SK, SV, List.getD_cons_zero, List.getD_cons_succ, k82, r2, r3, r4, u1, u2, u3, LK, AC, nI_clamp, in_eq, Nat.reduceLeDiff, true_or, or_true, true_implies, not_true_eq_false, not_false_eq_true, false_implies, true_and, and_true]
  · simp only [Nat.reduceEqDiff, Nat.one_ne_zero, eq_self, if_true, if_false]
    simp (disch := omega) only [U_Mo_count (cm _), SA, SB, SC1, SC2, SG, SK, SV, hh, k8, true_or, or_true, true_implies, not_true_eq_false, not_false_eq_true, false_implies, true_and, and_true]
    rw [tsw_hit 4 (by decide) (by decide)]
    simp (disch := omega) only [U_Mo_count (cm _), SA, SB, SC1, SC2, SG, SK, SV, List.getD_cons_zero, List.getD_cons_succ, k82, r2, r3, r4, u1, u2, u3, LK, AC, nI_clamp, in_eq, Nat.reduceLeDiff, true_or, or_true, true_implies, not_true_eq_false, not_false_eq_true, false_implies, true_and, and_true]
  · simp only [Nat.reduceEqDiff, Nat.one_ne_zero, eq_self, if_true, if_false]
    simp (disch := omega) only [U_Mo_count (cm _), SA, SB, SC1, SC2, SG, SK, SV, hh, k8, true_or, or_true, true_implies, not_true_eq_false, not_false_eq_true, false_implies, true_and, and_true]
    rw [tsw_hit 5 (by decide) (by decide)]
    simp (disch := omega) only [U_Mo_count (cm _), SA, SB, SC1, SC2, SG, SK, SV, List.getD_cons_zero, List.getD_cons_succ, k82, r2, r3, r4, u1, u2, u3, LK, AC, nI_clamp, in_eq, Nat.reduceLeDiff, true_or, or_true, true_implies, not_true_eq_false, not_false_eq_true, false_implies, true_and, and_true]
  · simp only [Nat.reduceEqDiff, Nat.one_ne_zero, eq_self, if_true, if_false]
    simp (disch := omega) only [U_Mo_count (cm _), SA, SB, SC1, SC2, SG, SK, SV, hh, k8, true_or, or_true, true_implies, not_true_eq_false, not_false_eq_true, false_implies, true_and, and_true]
    rw [tsw_hit 6 (by decide) (by decide)]
    simp (disch := omega) only [U_Mo_count (cm _), SA, SB, SC1, SC2, SG, SK, SV, List.getD_cons_zero, List.getD_cons_succ, k82, r2, r3, r4, u1, u2, u3, LK, AC, nI_clamp, in_eq, Nat.reduceLeDiff, true_or, or_true, true_implies, not_true_eq_false, not_false_eq_true, false_implies, true_and, and_true]
  · simp only [Nat.reduceEqDiff, Nat.one_ne_zero, eq_self, if_true, if_false]
    simp (disch := omega) only [U_Mo_count (cm _), SA, SB, SC1, SC2, SG, SK, SV, hh, k8, true_or, or_true, true_implies, not_true_eq_false, not_false_eq_true, false_implies, true_and, and_true]
    rw [tsw_hit 7 (by decide) (by decide)]
    simp (disch := omega) only [U_Mo_count (cm _), SA, SB, SC1, SC2, SG, SK, SV, List.getD_cons_zero, List.getD_cons_succ, k82, r2, r3, r4, u1, u2, u3, LK, AC, nI_clamp, in_eq, Nat.reduceLeDiff, true_or, or_true, true_implies, not_true_eq_false, not_false_eq_true, false_implies, true_and, and_true]
  · simp only [Nat.reduceEqDiff, Nat.one_ne_zero, eq_self, if_true, if_false]
    simp (disch := omega) only [U_Mo_count (cm _), SA, SB, SC1, SC2, SG, SK, SV, hh, k8, true_or, or_true, true_implies, not_true_eq_false, not_false_eq_true, false_implies, true_and, and_true]
    rw [tsw_hit 8 (by decide) (by decide)]
    simp (disch := omega) only [U_Mo_count (cm _), SA, SB, SC1, SC2, SG, SK, SV, List.getD_cons_zero, List.getD_cons_succ, k82, r2, r3, r4, u1, u2, u3, LK, AC, nI_clamp, in_eq, Nat.reduceLeDiff, true_or, or_true, true_implies, not_true_eq_false, not_false_eq_true, false_implies, true_and, and_true]
  · simp only [Nat.reduceEqDiff, Nat.one_ne_zero, eq_self, if_true, if_false]
    simp (disch := omega) only [U_Mo_count (cm _), SA, SB, SC1, SC2, SG, SK, SV, hh, k8, true_or, or_true, true_implies, not_true_eq_false, not_false_eq_true, false_implies, true_and, and_true]
    rw [tsw_hit 9 (by decide) (by decide)]
    simp (disch := omega) only [U_Mo_count (cm _), SA, SB, SC1, SC2, SG, SK, SV, List.getD_cons_zero, List.getD_cons_succ, k82, r2, r3, r4, u1, u2, u3, LK, AC, nI_clamp, in_eq, Nat.reduceLeDiff, true_or, or_true, true_implies, not_true_eq_false, not_false_eq_true, false_implies, true_and, and_true]
  · simp only [Nat.reduceEqDiff, Nat.one_ne_zero, eq_self, if_true, if_false]
    simp (disch := omega) only [U_Mo_count (cm _), SA, SB, SC1, SC2, SG, SK, SV, hh, k8, true_or, or_true, true_implies, not_true_eq_false, not_false_eq_true, false_implies, true_and, and_true]
    rw [tsw_hit 10 (by decide) (by decide)]
    simp (disch := omega) only [U_Mo_count (cm _), SA, SB, SC1, SC2, SG, SK, SV, List.getD_cons_zero, List.getD_cons_succ, k82, r2, r3, r4, u1, u2, u3, LK, AC, nI_clamp, in_eq, Nat.reduceLeDiff, true_or, or_true, true_implies, not_true_eq_false, not_false_eq_true, false_implies, true_and, and_true]
  · simp only [Nat.reduceEqDiff, Nat.one_ne_zero, eq_self, if_true, if_false]
    simp (disch := omega) only [U_Mo_count (cm _), SA, SB, SC1, SC2, SG, SK, SV, hh, k8, true_or, or_true, true_implies, not_true_eq_false, not_false_eq_true, false_implies, true_and, and_true]
    rw [tsw_hit 11 (by decide) (by decide)]
    simp (disch := omega) only [U_Mo_count (cm _), SA, SB, SC1, SC2, SG, SK, SV, List.getD_cons_zero, List.getD_cons_succ, k82, r2, r3, r4, u1, u2, u3, LK, AC, nI_clamp, in_eq, Nat.reduceLeDiff, true_or, or_true, true_implies, not_true_eq_false, not_false_eq_true, false_implies, true_and, and_true]
  · simp only [Nat.reduceEqDiff, Nat.one_ne_zero, eq_self, if_true, if_false]
    simp (disch := omega) only [U_Mo_count (cm _), SA, SB, SC1, SC2, SG, SK, SV, hh, k8, true_or, or_true, true_implies, not_true_eq_false, not_false_eq_true, false_implies, true_and, and_true]
    rw [tsw_hit 12 (by decide) (by decide)]
    simp (disch := omega) only [U_Mo_count (cm _), SA, SB, SC1, SC2, SG, SK, SV, List.getD_cons_zero, List.getD_cons_succ, k82, r2, r3, r4, u1, u2, u3, LK, AC, nI_clamp, in_eq, Nat.reduceLeDiff, true_or, or_true, true_implies, not_true_eq_false, not_false_eq_true, false_implies, true_and, and_true]
  · simp only [Nat.reduceEqDiff, Nat.one_ne_zero, eq_self, if_true, if_false]
    rw [b01_t (by decide)] at IN
    simp (disch := omega) only [U_Mo_count (cm _), SA, SB, SC1, SC2, SG, SK, SV, hh, k8, true_or, or_true, true_implies, not_true_eq_false, not_false_eq_true, false_implies, true_and, and_true]
    rw [tsw_miss (by right; decide)]
    simp (disch := omega) only [U_Mo_count (cm _), SA, SB, SC1, SC2, SG, SK, SV, k82, r2, r3, r4, IN, T0, T1, T2, eqI, pk_sub, Nat.reduceSub, Nat.one_ne_zero, nI_clamp, in_eq, Nat.reduceLeDiff, true_or, or_true, true_implies, not_true_eq_false, not_false_eq_true, false_implies, true_and, and_true]
  · simp only [Nat.reduceEqDiff, Nat.one_ne_zero, eq_self, if_true, if_false]
    rw [b01_t (by decide)] at IN
    simp (disch := omega) only [U_Mo_count (cm _), SA, SB, SC1, SC2, SG, SK, SV, hh, k8, true_or, or_true, true_implies, not_true_eq_false, not_false_eq_true, false_implies, true_and, and_true]
    rw [tsw_miss (by right; decide)]
    simp (disch := omega) only [U_Mo_count (cm _), SA, SB, SC1, SC2, SG, SK, SV, k82, r2, r3, r4, IN, T0, T1, T2, eqI, pk_sub, Nat.reduceSub, Nat.one_ne_zero, nI_clamp, in_eq, Nat.reduceLeDiff, true_or, or_true, true_implies, not_true_eq_false, not_false_eq_true, false_implies, true_and, and_true]
  · simp only [Nat.reduceEqDiff, Nat.one_ne_zero, eq_self, if_true, if_false]
    rw [b01_t (by decide)] at IN
    simp (disch := omega) only [U_Mo_count (cm _), SA, SB, SC1, SC2, SG, SK, SV, hh, k8, true_or, or_true, true_implies, not_true_eq_false, not_false_eq_true, false_implies, true_and, and_true]
    rw [tsw_miss (by right; decide)]
    simp (disch := omega) only [U_Mo_count (cm _), SA, SB, SC1, SC2, SG, SK, SV, k82, r2, r3, r4, IN, T0, T1, T2, eqI, pk_sub, Nat.reduceSub, Nat.one_ne_zero, nI_clamp, in_eq, Nat.reduceLeDiff, true_or, or_true, true_implies, not_true_eq_false, not_false_eq_true, false_implies, true_and, and_true]
theorem i2l_rr (x : Int32) (a b : Nat) (ha : a < 2 ^ 31) (hb : b < 2 ^ 31) : (lN a ≤ x.toInt64 ∧ x.toInt64 ≤ lN b) = (nI a ≤ x ∧ x ≤ nI b) := by
  rw [Int64.le_iff_toInt_le, Int64.le_iff_toInt_le, Int32.le_iff_toInt_le, Int32.le_iff_toInt_le, lN_t (by omega), lN_t (by omega), nI_toInt ha, nI_toInt hb, Int32.toInt_toInt64]
theorem op_count (w : Int32) : PairOp 4 111 249 [.int w] := PairQ (fun d h g => by
  by_cases c : rgI w 15
  · obtain ⟨w', hw, rfl⟩ := rg_n (by omega) c
    exact ⟨_, fun Q => x_count (d + 1) w' hw g Q, fun Q => m_count d w' hw g.2.1.1 Q⟩
  · have ms := rg_no (by omega) c
    refine ⟨.int (-1), fun Q => ?_, fun Q => ?_⟩
    · rw [E_Di_count]
      rcases ms with z | ⟨z1, z2⟩
      · have a1 : w < nI 7 := by
          rw [Int32.lt_iff_toInt_lt, nI_toInt (by omega)] at *; omega
        have a2 : w < nI 13 := by
          rw [Int32.lt_iff_toInt_lt, nI_toInt (by omega)] at *; omega
        simp (disch := omega) only [U_Di_count (cm _), SA, SB, SC1, SC2, SG, SK, SV, a1, a2, true_or, or_true, true_implies, not_true_eq_false, not_false_eq_true, false_implies, true_and, and_true]
        rw [tsw_miss (by left; rw [Int32.lt_iff_toInt_lt] at z; exact z)]
      · rw [Int32.le_iff_toInt_le, nI_toInt (by omega)] at z2
        have a1 : ¬ w < nI 7 := by
          rw [Int32.lt_iff_toInt_lt, nI_toInt (by omega)]; omega
        have a2 : ¬ w < nI 13 := by
          rw [Int32.lt_iff_toInt_lt, nI_toInt (by omega)]; omega
        have a3 : nI 11 < w := by
          rw [Int32.lt_iff_toInt_lt, nI_toInt (by omega)]; omega
        have a4 : nI 15 < w := by
          rw [Int32.lt_iff_toInt_lt, nI_toInt (by omega)]; omega
        simp (disch := omega) only [U_Di_count (cm _), SA, SB, SC1, SC2, SG, SK, SV, a1, a2, a3, a4, true_or, or_true, true_implies, not_true_eq_false, not_false_eq_true, false_implies, true_and, and_true]
        rw [tsw_miss (by right; show (0 : Int) + 13 ≤ _; omega)]
    · obtain ⟨hM2, ei2, ef2, kp⟩ := thM g.2.1.1
      have k8 := g.2.1.1.1
      have IN := fun h Q => e_in (d + 2) w.toInt64 (lN 13) (lN 15) h Q
      rw [b01_f (show ¬ (lN 13 ≤ w.toInt64 ∧ w.toInt64 ≤ lN 15) by
        rw [i2l_rr w 13 15 (by omega) (by omega)]
        rintro ⟨y1, y2⟩
        refine c ⟨?_, y2⟩
        rw [Int32.le_iff_toInt_le, nI_toInt (by omega)] at *
        omega)] at IN
      generalize hh : thH h = h2 at *
      unfold thH at hh
      rw [E_Mo_count]
      simp (disch := omega) only [U_Mo_count (cm _), SA, SB, SC1, SC2, SG, SK, SV, hh, k8, true_or, or_true, true_implies, not_true_eq_false, not_false_eq_true, false_implies, true_and, and_true]
      rw [tsw_miss (by
        rcases ms with z | ⟨z1, z2⟩
        · left; rw [Int32.lt_iff_toInt_lt] at z; exact z
        · right; rw [Int32.le_iff_toInt_le, nI_toInt (by omega)] at z2; show (0 : Int) + 13 ≤ _; omega)]
      simp (disch := omega) only [U_Mo_count (cm _), SA, SB, SC1, SC2, SG, SK, SV, IN, eqI, true_or, or_true, true_implies, not_true_eq_false, not_false_eq_true, false_implies, true_and, and_true])
