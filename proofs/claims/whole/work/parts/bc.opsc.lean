/-! ===== between ===== -/
def wtF (p : RW) (a b : Nat) (n i : Nat) : Nat := if p (154 + 4 * i + 1) = nI a ∧ p (154 + 4 * i + 2) = nI b then n + 1 else n
theorem wtF_e {p : RW} {a b f t n i : Nat} (ha : a < 7) (hb : b < 7) (hf : f < 7) (ht : t < 7) (m6 : p (154 + 4 * i + 1) = nI f) (m7 : p (154 + 4 * i + 2) = nI t) : wtF p a b n i = if f = a ∧ t = b then n + 1 else n := by
  unfold wtF
  by_cases c : f = a ∧ t = b
  · rw [if_pos c, if_pos ⟨by rw [m6, c.1], by rw [m7, c.2]⟩]
  · rw [if_neg c, if_neg (fun z => c ?_)]
    rw [m6, m7, eqI (by omega) (by omega), eqI (by omega) (by omega)] at z
    exact z
theorem wtF_le (p : RW) (a b : Nat) : ∀ (m i n : Nat), itr (wtF p a b) i m n ≤ n + m
  | 0, i, n => by rw [itr_0]; omega
  | m + 1, i, n => by
    rw [itr_s]
    have := wtF_le p a b m (i + 1) (wtF p a b n i)
    have h1 : wtF p a b n i ≤ n + 1 := by unfold wtF; split <;> omega
    omega
theorem x_l_wait (d a b : Nat) (ha : a < 7) (hb : b < 7) {h : MH} {p : RW} (hS : NeS h 26) (V : NeV h 26 p) (iv : IV p) (Q : RT) (lm : Nat × Nat) : ∀ (m i n : Nat), i + m = ql p → n ≤ i → WP cd_Ne_waitOn (callD (d + 1)) Q lm 5 [] [some (.ref 26), some (.int (nI a)), some (.int (nI b)), some (.int (nI n)), some (.int (nI i))] h = Q (some (.int (nI (itr (wtF p a b) i m n)))) h
  | 0, i, n, e, hn => by
    obtain ⟨sh, -⟩ := hS.all
    simp only [Nat.reduceAdd] at sh
    have q4 := iv.q.2
    have w9 : hfi h 26 9 = nI (ql p) := V.2.2.2.2.2.2.2.2.2.1.trans iv.q.1
    rw [U_Ne_waitOn_5 (cm _), itr_0]
    simp (disch := omega) only [U_Ne_waitOn (cm _), SA, SB, SG, SV, sh, w9, leI, show ql p ≤ i by omega, true_implies, not_true_eq_false, not_false_eq_true, false_implies, true_and, and_true]
  | m + 1, i, n, e, hn => by
    obtain ⟨sh, -⟩ := hS.all
    simp only [Nat.reduceAdd] at sh
    have q4 := iv.q.2
    have w9 : hfi h 26 9 = nI (ql p) := V.2.2.2.2.2.2.2.2.2.1.trans iv.q.1
    obtain ⟨k, f, t, dd, mv, -⟩ := iv.1.2.1 i (by omega)
    have pe := V.2.2.2.2.2.2.2.2.1 i (by omega)
    simp only [Nat.reduceAdd] at pe
    rw [mv.pk] at pe
    obtain ⟨m1, m2, m3, m4, m5, m6, m7, m8⟩ := mv
    have FO := fun h Q => e_fromOf d k f t dd m1 m2 m3 m4 h Q
    have TO := fun h Q => e_toOf d k f t dd m1 m2 m3 m4 h Q
    have h1 : wtF p a b n i ≤ n + 1 := by unfold wtF; split <;> omega
    have ih := x_l_wait d a b ha hb hS V iv Q lm m (i + 1) (wtF p a b n i) (by omega) (by omega)
    rw [U_Ne_waitOn_5 (cm _), itr_s, ← ih]
    rw [wtF_e ha hb m2 m3 m6 m7]
    by_cases c1 : f = a
    · by_cases c2 : t = b
      · subst c1 c2
        rw [if_pos ⟨rfl, rfl⟩]
        simp (disch := omega) only [U_Ne_waitOn (cm _), SA, SB, SC1, SC2, SG, SV, sh, w9, pe, FO, TO, eqI, leI, show ¬ ql p ≤ i by omega, nI_add, nI_clamp, in_eq, true_implies, not_true_eq_false, not_false_eq_true, false_implies, true_and, and_true]
      · subst c1
        rw [if_neg (fun z => c2 z.2)]
        simp (disch := omega) only [U_Ne_waitOn (cm _), SA, SB, SC1, SC2, SG, SV, sh, w9, pe, FO, TO, eqI, c2, leI, show ¬ ql p ≤ i by omega, nI_add, nI_clamp, in_eq, true_implies, not_true_eq_false, not_false_eq_true, false_implies, true_and, and_true]
    · rw [if_neg (fun z => c1 z.1)]
      simp (disch := omega) only [U_Ne_waitOn (cm _), SA, SB, SC1, SC2, SG, SV, sh, w9, pe, FO, eqI, c1, leI, show ¬ ql p ≤ i by omega, nI_add, nI_clamp, in_eq, true_implies, not_true_eq_false, not_false_eq_true, false_implies, true_and, and_true]
theorem m_l_wait (d a b : Nat) (ha : a < 7) (hb : b < 7) {h : MH} {p : RW} (hM : MoS h) (hp : hia h 275 = p) (iv : IV p) (Q : RT) (lm : Nat × Nat) : ∀ (m i n : Nat), i + m = ql p → n ≤ i → WP cd_Mo_waiting (callD (d + 1)) Q lm 5 [] [some (.ref 273), some (.int (nI a)), some (.int (nI b)), some (.int (nI n)), some (.int (nI i))] h = Q (some (.int (nI (itr (wtF p a b) i m n)))) h
  | 0, i, n, e, hn => by
    obtain ⟨k8, r2, r3, r4⟩ := hM.row
    have q4 := iv.q.2
    have w6 : hia h 275 6 = nI (ql p) := by rw [hp]; exact iv.q.1
    rw [U_Mo_waiting_5 (cm _), itr_0]
    simp (disch := omega) only [U_Mo_waiting (cm _), SA, SB, SG, SV, k8, r2, r3, r4, w6, nI_clamp, in_eq, Nat.reduceLeDiff, leI, show ql p ≤ i by omega, true_implies, not_true_eq_false, not_false_eq_true, false_implies, true_and, and_true]
  | m + 1, i, n, e, hn => by
    obtain ⟨k8, r2, r3, r4⟩ := hM.row
    have q4 := iv.q.2
    have w6 : hia h 275 6 = nI (ql p) := by rw [hp]; exact iv.q.1
    obtain ⟨k, f, t, dd, ⟨m1, m2, m3, m4, m5, m6, m7, m8⟩, -⟩ := iv.1.2.1 i (by omega)
    have MA := fun h Q => e_messageAt d i h Q
    have h1 : wtF p a b n i ≤ n + 1 := by unfold wtF; split <;> omega
    have ih := m_l_wait d a b ha hb hM hp iv Q lm m (i + 1) (wtF p a b n i) (by omega) (by omega)
    rw [U_Mo_waiting_5 (cm _), itr_s, ← ih]
    rw [wtF_e ha hb m2 m3 m6 m7]
    rw [← hp] at m6 m7
    by_cases c1 : f = a
    · by_cases c2 : t = b
      · subst c1 c2
        rw [if_pos ⟨rfl, rfl⟩]
        simp (disch := omega) only [U_Mo_waiting (cm _), SA, SB, SC1, SC2, SG, SV, k8, r2, r3, r4, w6, MA, m6, m7, eqI, leI, show ¬ ql p ≤ i by omega, nI_add, nI_clamp, in_eq, Nat.reduceLeDiff, true_implies, not_true_eq_false, not_false_eq_true, false_implies, true_and, and_true]
      · subst c1
        rw [if_neg (fun z => c2 z.2)]
        simp (disch := omega) only [U_Mo_waiting (cm _), SA, SB, SC1, SC2, SG, SV, k8, r2, r3, r4, w6, MA, m6, m7, eqI, c2, leI, show ¬ ql p ≤ i by omega, nI_add, Nat.add_zero, nI_clamp, in_eq, Nat.reduceLeDiff, true_implies, not_true_eq_false, not_false_eq_true, false_implies, true_and, and_true]
    · rw [if_neg (fun z => c1 z.1)]
      simp (disch := omega) only [U_Mo_waiting (cm _), SA, SB, SC1, SC2, SG, SV, k8, r2, r3, r4, w6, MA, m6, m7, eqI, c1, leI, show ¬ ql p ≤ i by omega, nI_add, Nat.add_zero, nI_clamp, in_eq, Nat.reduceLeDiff, true_implies, not_true_eq_false, not_false_eq_true, false_implies, true_and, and_true]
theorem x_waitOn (d a b : Nat) (ha : a < 7) (hb : b < 7) {h : MH} {p : RW} (hS : NeS h 26) (V : NeV h 26 p) (iv : IV p) (Q : RT) : callD (d + 2) 23 [.ref 26, .int (nI a), .int (nI b)] h Q = Q (some (.int (nI (itr (wtF p a b) 0 (ql p) 0)))) h := by
  rw [E_Ne_waitOn]
  have L := fun lm => x_l_wait d a b ha hb hS V iv Q lm (ql p) 0 0 (by omega) (by omega)
  simp only [U_Ne_waitOn (cm _), SA, SB, SG, SV, L]
theorem m_waiting (d a b : Nat) (ha : a < 7) (hb : b < 7) {h : MH} {p : RW} (hM : MoS h) (hp : hia h 275 = p) (iv : IV p) (Q : RT) : callD (d + 2) 152 [.ref 273, .int (nI a), .int (nI b)] h Q = Q (some (.int (nI (itr (wtF p a b) 0 (ql p) 0)))) h := by
  rw [E_Mo_waiting]
  have L := fun lm => m_l_wait d a b ha hb hM hp iv Q lm (ql p) 0 0 (by omega) (by omega)
  simp only [U_Mo_waiting (cm _), SA, SB, SG, SV, L]
def btV (p : RW) (a b w : Nat) : Int32 := if w = 0 then gC p a b else if w = 1 then gT p a b else if w = 2 then mBy p a b else if w = 3 then (if mFeas p a b then nI 1 else nI 0) else nI (itr (wtF p a b) 0 (ql p) 0)
theorem bt_i {x : Int32} (hx : M7 x) {o : Nat} (ho : o < 7) : bt x o = nI 0 ∨ bt x o = nI 1 := by
  obtain ⟨m, hm, rfl⟩ := hx
  have : ∀ m, m < 128 → ∀ o, o < 7 → bt (nI m) o = nI 0 ∨ bt (nI m) o = nI 1 := by decide +kernel
  exact this m hm o ho
theorem x_between (d a b w : Nat) (ha : a < 7) (hb : b < 7) (hab : a ≠ b) (hw : w ≤ 4) {h : MH} {p : RW} (s : XS h) (V : NeV h 26 p) (iv : IV p) (Q : RT) : callD (d + 4) 80 [.ref 24, .int (nI a), .int (nI b), .int (nI w)] h Q = Q (some (.int (btV p a b w))) h := by
  have so := s.1
  unfold XSo at so
  have sw := WoS_25 s
  unfold WoS at sw
  simp only [Nat.reduceAdd] at sw
  have hS := s.2.2.2.2.2.1.1
  obtain ⟨sh, -⟩ := hS.all
  simp only [Nat.reduceAdd] at sh
  have AP := fun h Q => xd_arePair (d + 1) (nI a) (nI b) h Q
  rw [b01_t (show isR (nI a) ∧ isR (nI b) ∧ ¬ nI a = nI b from ⟨rgI_n (by omega) (by omega), rgI_n (by omega) (by omega), by rw [eqI (by omega) (by omega)]; exact hab⟩)] at AP
  have a1 := V.1 a b ha hb
  have a2 := V.2.1 a b ha hb
  simp only [Nat.reduceAdd] at a1 a2
  have BY := fun Q => x_by (d + 1) 26 a b ha hb hS V Q
  have FE := fun Q => x_feasible (d + 2) 26 a ha hS V Q
  have EB := fun h Q => e_bit (d + 2) (mFs p a) b h Q
  have WO := fun Q => x_waitOn (d + 1) a b ha hb hS V iv Q
  have fb : bt (mFs p a) b = if mFeas p a b then nI 1 else nI 0 := by
    obtain ⟨f1, f2⟩ := mFs_b p a
    by_cases c : mFeas p a b
    · rw [if_pos c]; exact (f2 b hb).mpr c
    · rw [if_neg c]
      exact (bt_i f1 hb).resolve_right (fun z => c ((f2 b hb).mp z))
  rw [E_Di_between]
  rcases (show w = 0 ∨ w = 1 ∨ w = 2 ∨ w = 3 ∨ w = 4 by omega) with rfl | rfl | rfl | rfl | rfl
  · unfold btV
    simp (disch := omega) only [U_Di_between (cm _), SA, SB, SC1, SC2, SG, SK, SV, so, sw, AP, eqI, Nat.one_ne_zero, Nat.reduceEqDiff, if_true, if_false, true_implies, not_true_eq_false, not_false_eq_true, false_implies, true_and, and_true]
    rw [tsw_hit 0 (by decide) (by decide)]
    simp (disch := omega) only [List.getD_cons_zero, List.getD_cons_succ, U_Di_between (cm _), SA, SB, SC1, SC2, SG, SK, SV, sh, a1, pk_mul, nI_add, nI_clamp, in_eq, Nat.reduceLeDiff, true_implies, not_true_eq_false, not_false_eq_true, false_implies, true_and, and_true]
  · unfold btV
    simp (disch := omega) only [U_Di_between (cm _), SA, SB, SC1, SC2, SG, SK, SV, so, sw, AP, eqI, Nat.one_ne_zero, Nat.reduceEqDiff, if_true, if_false, true_implies, not_true_eq_false, not_false_eq_true, false_implies, true_and, and_true]
    rw [tsw_hit 1 (by decide) (by decide)]
    simp (disch := omega) only [List.getD_cons_zero, List.getD_cons_succ, U_Di_between (cm _), SA, SB, SC1, SC2, SG, SK, SV, sh, a2, pk_mul, nI_add, nI_clamp, in_eq, Nat.reduceLeDiff, true_implies, not_true_eq_false, not_false_eq_true, false_implies, true_and, and_true]
  · unfold btV
    simp (disch := omega) only [U_Di_between (cm _), SA, SB, SC1, SC2, SG, SK, SV, so, sw, AP, eqI, Nat.one_ne_zero, Nat.reduceEqDiff, if_true, if_false, true_implies, not_true_eq_false, not_false_eq_true, false_implies, true_and, and_true]
    rw [tsw_hit 2 (by decide) (by decide)]
    simp (disch := omega) only [List.getD_cons_zero, List.getD_cons_succ, U_Di_between (cm _), SA, SB, SC1, SC2, SG, SK, SV, sh, BY, nI_clamp, in_eq, Nat.reduceLeDiff, true_implies, not_true_eq_false, not_false_eq_true, false_implies, true_and, and_true]
  · unfold btV
    simp (disch := omega) only [U_Di_between (cm _), SA, SB, SC1, SC2, SG, SK, SV, so, sw, AP, eqI, Nat.one_ne_zero, Nat.reduceEqDiff, if_true, if_false, true_implies, not_true_eq_false, not_false_eq_true, false_implies, true_and, and_true]
    rw [tsw_hit 3 (by decide) (by decide)]
    simp (disch := omega) only [List.getD_cons_zero, List.getD_cons_succ, U_Di_between (cm _), SA, SB, SC1, SC2, SG, SK, SV, sh, FE, EB, fb, nI_clamp, in_eq, Nat.reduceLeDiff, true_implies, not_true_eq_false, not_false_eq_true, false_implies, true_and, and_true]
  · unfold btV
    simp (disch := omega) only [U_Di_between (cm _), SA, SB, SC1, SC2, SG, SK, SV, so, sw, AP, eqI, Nat.one_ne_zero, Nat.reduceEqDiff, if_true, if_false, true_implies, not_true_eq_false, not_false_eq_true, false_implies, true_and, and_true]
    rw [tsw_hit 4 (by decide) (by decide)]
    simp (disch := omega) only [List.getD_cons_zero, List.getD_cons_succ, U_Di_between (cm _), SA, SB, SC1, SC2, SG, SK, SV, sh, WO, nI_clamp, in_eq, Nat.reduceLeDiff, true_implies, not_true_eq_false, not_false_eq_true, false_implies, true_and, and_true]
theorem m_between (d a b w : Nat) (ha : a < 7) (hb : b < 7) (hab : a ≠ b) (hw : w ≤ 4) {h : MH} {p : RW} (hM : MoS h) (hp : hia h 275 = p) (iv : IV p) (Q : RT) : callD (d + 4) 153 [.ref 273, .int (nI a), .int (nI b), .int (nI w)] h Q = Q (some (.int (btV p a b w))) (thH h) := by
  obtain ⟨hM2, ei2, -, kp⟩ := thM hM
  have k8 := hM.1
  generalize hh : thH h = h2 at *
  unfold thH at hh
  have hp2 : hia h2 275 = p := by rw [ei2]; exact hp
  obtain ⟨k82, r2, r3, r4⟩ := hM2.row
  have AP := fun h Q => e_isPair d (nI a) (nI b) h Q
  rw [b01_t (show isR (nI a) ∧ isR (nI b) ∧ ¬ nI a = nI b from ⟨rgI_n (by omega) (by omega), rgI_n (by omega) (by omega), by rw [eqI (by omega) (by omega)]; exact hab⟩)] at AP
  have CO := fun Q => e_cost (d + 2) a b ha hb hM2 Q
  have BY := fun Q => e_by (d + 1) a b ha hb hM2 Q
  have FE := fun Q => e_isFeasible (d + 1) a b ha hb hM2 Q
  have WO := fun Q => m_waiting (d + 1) a b ha hb hM2 hp2 iv Q
  have TO : hia h2 275 (56 + 7 * a + b) = gT p a b := by rw [hp2]; rfl
  rw [hp2] at CO BY FE
  rw [E_Mo_between]
  rcases (show w = 0 ∨ w = 1 ∨ w = 2 ∨ w = 3 ∨ w = 4 by omega) with rfl | rfl | rfl | rfl | rfl
  · unfold btV
    simp (disch := omega) only [U_Mo_between (cm _), SA, SB, SC1, SC2, SG, SK, SV, hh, k8, AP, eqI, Nat.one_ne_zero, Nat.reduceEqDiff, if_true, if_false, true_implies, not_true_eq_false, not_false_eq_true, false_implies, true_and, and_true]
    rw [tsw_hit 0 (by decide) (by decide)]
    simp (disch := omega) only [List.getD_cons_zero, List.getD_cons_succ, U_Mo_between (cm _), SA, SB, SC1, SC2, SG, SK, SV, k82, CO, nI_clamp, in_eq, Nat.reduceLeDiff, true_implies, not_true_eq_false, not_false_eq_true, false_implies, true_and, and_true]
  · unfold btV
    simp (disch := omega) only [U_Mo_between (cm _), SA, SB, SC1, SC2, SG, SK, SV, hh, k8, AP, eqI, Nat.one_ne_zero, Nat.reduceEqDiff, if_true, if_false, true_implies, not_true_eq_false, not_false_eq_true, false_implies, true_and, and_true]
    rw [tsw_hit 1 (by decide) (by decide)]
    simp (disch := omega) only [List.getD_cons_zero, List.getD_cons_succ, U_Mo_between (cm _), SA, SB, SC1, SC2, SG, SK, SV, k82, r2, r3, r4, TO, pk_mul, nI_add, nI_clamp, in_eq, Nat.reduceLeDiff, true_implies, not_true_eq_false, not_false_eq_true, false_implies, true_and, and_true]
  · unfold btV
    simp (disch := omega) only [U_Mo_between (cm _), SA, SB, SC1, SC2, SG, SK, SV, hh, k8, AP, eqI, Nat.one_ne_zero, Nat.reduceEqDiff, if_true, if_false, true_implies, not_true_eq_false, not_false_eq_true, false_implies, true_and, and_true]
    rw [tsw_hit 2 (by decide) (by decide)]
    simp (disch := omega) only [List.getD_cons_zero, List.getD_cons_succ, U_Mo_between (cm _), SA, SB, SC1, SC2, SG, SK, SV, k82, BY, nI_clamp, in_eq, Nat.reduceLeDiff, true_implies, not_true_eq_false, not_false_eq_true, false_implies, true_and, and_true]
  · unfold btV
    simp (disch := omega) only [U_Mo_between (cm _), SA, SB, SC1, SC2, SG, SK, SV, hh, k8, AP, eqI, Nat.one_ne_zero, Nat.reduceEqDiff, if_true, if_false, true_implies, not_true_eq_false, not_false_eq_true, false_implies, true_and, and_true]
    rw [tsw_hit 3 (by decide) (by decide)]
    by_cases c : mFeas p a b
    · simp only [if_pos c] at FE ⊢
      simp (disch := omega) only [List.getD_cons_zero, List.getD_cons_succ, U_Mo_between (cm _), SA, SB, SC1, SC2, SG, SK, SV, k82, FE, eqI, Nat.one_ne_zero, true_implies, not_true_eq_false, not_false_eq_true, false_implies, true_and, and_true]
    · simp only [if_neg c] at FE ⊢
      simp (disch := omega) only [List.getD_cons_zero, List.getD_cons_succ, U_Mo_between (cm _), SA, SB, SC1, SC2, SG, SK, SV, k82, FE, eqI, Nat.one_ne_zero, true_implies, not_true_eq_false, not_false_eq_true, false_implies, true_and, and_true]
  · unfold btV
    simp (disch := omega) only [U_Mo_between (cm _), SA, SB, SC1, SC2, SG, SK, SV, hh, k8, AP, eqI, Nat.one_ne_zero, Nat.reduceEqDiff, if_true, if_false, true_implies, not_true_eq_false, not_false_eq_true, false_implies, true_and, and_true]
    rw [tsw_hit 4 (by decide) (by decide)]
    simp (disch := omega) only [List.getD_cons_zero, List.getD_cons_succ, U_Mo_between (cm _), SA, SB, SC1, SC2, SG, SK, SV, k82, WO, nI_clamp, in_eq, Nat.reduceLeDiff, true_implies, not_true_eq_false, not_false_eq_true, false_implies, true_and, and_true]
theorem op_between (a b w : Int32) : PairOp 4 80 153 [.int a, .int b, .int w] := PairQ (fun d h g => by
  obtain ⟨V, iv, -⟩ := g.2.2.2.1
  by_cases c1 : isR a ∧ isR b ∧ ¬ a = b
  · obtain ⟨a', ha, rfl⟩ := rg_n (by omega) c1.1
    obtain ⟨b', hb, rfl⟩ := rg_n (by omega) c1.2.1
    by_cases c2 : rgI w 4
    · obtain ⟨w', hw, rfl⟩ := rg_n (by omega) c2
      have hab : a' ≠ b' := fun z => c1.2.2 (by rw [z])
      exact ⟨_, fun Q => x_between d a' b' w' (by omega) (by omega) hab hw g.1 V iv Q, fun Q => m_between d a' b' w' (by omega) (by omega) hab hw g.2.1.1 rfl iv Q⟩
    · have ms := rg_no (by omega) c2
      have tm : ∀ {P : Prop} {F : Nat → Prop}, ((w.toInt < (nI 0).toInt ∨ (nI 0).toInt + ((5 : Nat) : Int) ≤ w.toInt → P) ∧ ∀ k : Nat, k < 5 → w.toInt = (nI 0).toInt + k → F k) = P := fun {P F} => tsw_miss (by
        rcases ms with z | ⟨z1, z2⟩
        · left; rw [Int32.lt_iff_toInt_lt] at z; exact z
        · right; rw [Int32.le_iff_toInt_le, nI_toInt (by omega)] at z2; exact z2)
      have AX := fun h Q => xd_arePair (d + 1) (nI a') (nI b') h Q
      have AM := fun h Q => e_isPair d (nI a') (nI b') h Q
      rw [b01_t c1] at AX AM
      have so := g.1.1
      unfold XSo at so
      have sw := WoS_25 g.1
      unfold WoS at sw
      have k8 := g.2.1.1.1
      obtain ⟨hM2, ei2, ef2, kp⟩ := thM g.2.1.1
      generalize hh : thH h = h2 at *
      unfold thH at hh
      refine ⟨.int (-1), fun Q => ?_, fun Q => ?_⟩
      · rw [E_Di_between]
        simp (disch := omega) only [U_Di_between (cm _), SA, SB, SC1, SC2, SG, SK, SV, so, sw, AX, eqI, Nat.one_ne_zero, true_implies, not_true_eq_false, not_false_eq_true, false_implies, true_and, and_true]
        exact tm
      · rw [E_Mo_between]
        simp (disch := omega) only [U_Mo_between (cm _), SA, SB, SC1, SC2, SG, SK, SV, hh, k8, AM, eqI, Nat.one_ne_zero, true_implies, not_true_eq_false, not_false_eq_true, false_implies, true_and, and_true]
        exact tm
  · have AX := fun h Q => xd_arePair (d + 1) a b h Q
    have AM := fun h Q => e_isPair d a b h Q
    rw [b01_f c1] at AX AM
    have k8 := g.2.1.1.1
    obtain ⟨hM2, ei2, ef2, kp⟩ := thM g.2.1.1
    generalize hh : thH h = h2 at *
    unfold thH at hh
    refine ⟨.int (-1), fun Q => ?_, fun Q => ?_⟩
    · rw [E_Di_between]
      simp (disch := omega) only [U_Di_between (cm _), SA, SB, SC1, SC2, SG, SK, SV, AX, eqI, Nat.one_ne_zero, true_implies, not_true_eq_false, not_false_eq_true, false_implies, true_and, and_true]
    · rw [E_Mo_between]
      simp (disch := omega) only [U_Mo_between (cm _), SA, SB, SC1, SC2, SG, SK, SV, hh, k8, AM, eqI, Nat.one_ne_zero, true_implies, not_true_eq_false, not_false_eq_true, false_implies, true_and, and_true])
