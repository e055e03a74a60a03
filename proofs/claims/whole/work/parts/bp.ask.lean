/-! ===== canBe, ask ===== -/
def fcV (p : RW) (r f : Nat) : Int32 := if f = 0 then mMany (mNb p r) else if f = 1 then gR p r 3 else if f = 2 then mMany (gR p r 4) else gR p r 2
theorem x_fact (d r f : Nat) (hr : r < 7) (hf : f < 4) {h : MH} {p : RW} (hS : NeS h 26) (V : NeV h 26 p) (iv : IV p) (Q : RT) : callD (d + 2) 24 [.ref 26, .int (nI r), .int (nI f)] h Q = Q (some (.int (fcV p r f))) h := by
  obtain ⟨sh, -⟩ := (hS).all
  simp only [Nat.reduceAdd] at sh
  obtain ⟨v1, v2, v3, v4, v5, v6, v7, v8, v9, v10, v11, v12, v13⟩ := V
  obtain ⟨-, -, -, va⟩ := v11
  have a3 := v3 r hr
  have a6 := v6 r hr
  have a7 := v7 r hr
  have b3 := va r hr
  simp only [Nat.reduceAdd] at a3 a6 a7
  have EB := fun x h Q => e_bit d x r h Q
  have B1 := fun h Q => e_bits d (mNb_b p r).1 h Q
  have B2 := fun h Q => e_bits d (iv.1.1.2.2 r hr).2.2.2.1.1 h Q
  unfold fcV
  rw [E_Ne_fact]
  rcases (show f = 0 ∨ f = 1 ∨ f = 2 ∨ f = 3 by omega) with rfl | rfl | rfl | rfl
  · simp (disch := omega) only [U_Ne_fact (cm _), SA, SB, SC1, SC2, SG, SK, SV, eqI, true_or, or_true, true_implies, not_true_eq_false, not_false_eq_true, false_implies, true_and, and_true]
    rw [tsw_hit 0 (by decide) (by decide)]
    simp (disch := omega) only [U_Ne_fact (cm _), SA, SB, SC1, SC2, SG, SK, SV, List.getD_cons_zero, List.getD_cons_succ, sh, a3, B1, nI_clamp, in_eq, Nat.reduceLeDiff, if_true, true_or, or_true, true_implies, not_true_eq_false, not_false_eq_true, false_implies, true_and, and_true]
  · simp (disch := omega) only [U_Ne_fact (cm _), SA, SB, SC1, SC2, SG, SK, SV, eqI, true_or, or_true, true_implies, not_true_eq_false, not_false_eq_true, false_implies, true_and, and_true]
    rw [tsw_hit 1 (by decide) (by decide)]
    simp (disch := omega) only [U_Ne_fact (cm _), SA, SB, SC1, SC2, SG, SK, SV, List.getD_cons_zero, List.getD_cons_succ, sh, EB, b3, nI_clamp, in_eq, Nat.reduceLeDiff, Nat.one_ne_zero, if_true, if_false, true_or, or_true, true_implies, not_true_eq_false, not_false_eq_true, false_implies, true_and, and_true]
  · simp (disch := omega) only [U_Ne_fact (cm _), SA, SB, SC1, SC2, SG, SK, SV, eqI, true_or, or_true, true_implies, not_true_eq_false, not_false_eq_true, false_implies, true_and, and_true]
    rw [tsw_hit 2 (by decide) (by decide)]
    simp (disch := omega) only [U_Ne_fact (cm _), SA, SB, SC1, SC2, SG, SK, SV, List.getD_cons_zero, List.getD_cons_succ, sh, a7, B2, nI_clamp, in_eq, Nat.reduceLeDiff, Nat.reduceEqDiff, if_true, if_false, true_or, or_true, true_implies, not_true_eq_false, not_false_eq_true, false_implies, true_and, and_true]
  · simp (disch := omega) only [U_Ne_fact (cm _), SA, SB, SC1, SC2, SG, SK, SV, eqI, true_or, or_true, true_implies, not_true_eq_false, not_false_eq_true, false_implies, true_and, and_true]
    rw [tsw_miss (by right; decide)]
    simp (disch := omega) only [U_Ne_fact (cm _), SA, SB, SC1, SC2, SG, SK, SV, sh, a6, nI_clamp, in_eq, Nat.reduceLeDiff, Nat.reduceEqDiff, if_true, if_false, true_or, or_true, true_implies, not_true_eq_false, not_false_eq_true, false_implies, true_and, and_true]
theorem m_factOf (d r f : Nat) (hr : r < 7) (hf : f < 4) {h : MH} {p : RW} (hM : MoS h) (hp : hia h 275 = p) (Q : RT) : callD (d + 3) 227 [.ref 273, .int (nI r), .int (nI f)] h Q = Q (some (.int (fcV p r f))) h := by
  obtain ⟨k8, r2, r3, r4⟩ := hM.row
  have RA := fun h Q => e_routerAt (d + 1) r (by omega) h Q
  have NB := fun Q => e_neighbours d r hr hM Q
  have MY := fun y Q => e_many (d + 1) y (h := h) Q
  have g3 : hia h 275 (105 + 7 * r + 3) = gR p r 3 := by rw [hp]; rfl
  have g4 : hia h 275 (105 + 7 * r + 4) = gR p r 4 := by rw [hp]; rfl
  have g2 : hia h 275 (105 + 7 * r + 2) = gR p r 2 := by rw [hp]; rfl
  rw [hp] at NB
  unfold fcV
  rw [E_Mo_factOf]
  rcases (show f = 0 ∨ f = 1 ∨ f = 2 ∨ f = 3 by omega) with rfl | rfl | rfl | rfl
  · simp (disch := omega) only [U_Mo_factOf (cm _), SA, SB, SC1, SC2, SG, SK, SV, k8, r2, r3, r4, RA, NB, MY, eqI, nI_add, nI_clamp, in_eq, Nat.reduceLeDiff, Nat.one_ne_zero, Nat.reduceEqDiff, if_true, if_false, true_or, or_true, true_implies, not_true_eq_false, not_false_eq_true, false_implies, true_and, and_true]
  · simp (disch := omega) only [U_Mo_factOf (cm _), SA, SB, SC1, SC2, SG, SK, SV, k8, r2, r3, r4, RA, g3, eqI, nI_add, nI_clamp, in_eq, Nat.reduceLeDiff, Nat.one_ne_zero, Nat.reduceEqDiff, if_true, if_false, true_or, or_true, true_implies, not_true_eq_false, not_false_eq_true, false_implies, true_and, and_true]
  · simp (disch := omega) only [U_Mo_factOf (cm _), SA, SB, SC1, SC2, SG, SK, SV, k8, r2, r3, r4, RA, g4, MY, eqI, nI_add, nI_clamp, in_eq, Nat.reduceLeDiff, Nat.one_ne_zero, Nat.reduceEqDiff, if_true, if_false, true_or, or_true, true_implies, not_true_eq_false, not_false_eq_true, false_implies, true_and, and_true]
  · simp (disch := omega) only [U_Mo_factOf (cm _), SA, SB, SC1, SC2, SG, SK, SV, k8, r2, r3, r4, RA, g2, eqI, nI_add, nI_clamp, in_eq, Nat.reduceLeDiff, Nat.one_ne_zero, Nat.reduceEqDiff, if_true, if_false, true_or, or_true, true_implies, not_true_eq_false, not_false_eq_true, false_implies, true_and, and_true]
/-- is it as was seen -/
def seB (p : RW) (r : Nat) : Nat → Nat → Bool
  | 0, _ => true
  | m + 1, i => decide (fcV p r (nn (p (2010 + 2 * i))) = p (2010 + 2 * i + 1)) && seB p r m (i + 1)
theorem seB_s (p : RW) (r m i : Nat) : seB p r (m + 1) i = (decide (fcV p r (nn (p (2010 + 2 * i))) = p (2010 + 2 * i + 1)) && seB p r m (i + 1)) := rfl
theorem x_l_seen (d r ns : Nat) (hr : r < 7) (hn : ns ≤ 6) {h : MH} {p : RW} (s : XS h) (V : NeV h 26 p) (iv : IV p) (w6 : hfi h 25 6 = nI ns) (sn : ∀ i, i < ns → hia h 37 i = p (2010 + 2 * i) ∧ hia h 38 i = p (2010 + 2 * i + 1) ∧ ∃ x, x < 4 ∧ p (2010 + 2 * i) = nI x) (Q : RT) (lm : Nat × Nat) : ∀ (m i : Nat), i + m = ns → WP cd_Di_isAsSeen (callD (d + 2)) Q lm 2 [] [some (.ref 24), some (.int (nI r)), some (.int (nI i))] h = Q (some (.int (b01 (seB p r m i = true)))) h
  | 0, i, e => by
    have so := (s).1
    unfold XSo at so
    have sw := WoS_25 (s)
    unfold WoS at sw
    simp only [Nat.reduceAdd] at sw
    rw [U_Di_isAsSeen_2 (cm _), show seB p r 0 i = true from rfl, b01_t rfl]
    simp (disch := omega) only [U_Di_isAsSeen (cm _), SA, SB, SC1, SC2, SG, SK, SV, so, sw, w6, leI, show ns ≤ i by omega, true_or, or_true, true_implies, not_true_eq_false, not_false_eq_true, false_implies, true_and, and_true]
  | m + 1, i, e => by
    have so := (s).1
    unfold XSo at so
    have sw := WoS_25 (s)
    unfold WoS at sw
    simp only [Nat.reduceAdd] at sw
    have hS := s.2.2.2.2.2.1.1
    obtain ⟨s1, s2, f, hf, s3⟩ := sn i (by omega)
    have s1' := s1.trans s3
    have FA := fun Q => x_fact d r f hr hf hS V iv Q
    have k2 := hS.1
    have ih := x_l_seen d r ns hr hn s V iv w6 sn Q lm m (i + 1) (by omega)
    rw [U_Di_isAsSeen_2 (cm _), seB_s, s3, nn_n (by omega)]
    by_cases c : fcV p r f = p (2010 + 2 * i + 1)
    · rw [decide_eq_true c, Bool.true_and, ← ih]
      simp (disch := omega) only [U_Di_isAsSeen (cm _), SA, SB, SC1, SC2, SG, SK, SV, so, sw, w6, k2, s1', s2, FA, c, leI, show ¬ ns ≤ i by omega, nI_add, nI_clamp, in_eq, Nat.reduceLeDiff, true_or, or_true, true_implies, not_true_eq_false, not_false_eq_true, false_implies, true_and, and_true]
    · rw [decide_eq_false c, Bool.false_and, b01_f (by decide)]
      simp (disch := omega) only [U_Di_isAsSeen (cm _), SA, SB, SC1, SC2, SG, SK, SV, so, sw, w6, k2, s1', s2, FA, c, leI, show ¬ ns ≤ i by omega, nI_add, nI_clamp, in_eq, Nat.reduceLeDiff, true_or, or_true, true_implies, not_true_eq_false, not_false_eq_true, false_implies, true_and, and_true]
theorem x_isAsSeen (d r ns : Nat) (hr : r < 7) (hn : ns ≤ 6) {h : MH} {p : RW} (s : XS h) (V : NeV h 26 p) (iv : IV p) (w6 : hfi h 25 6 = nI ns) (sn : ∀ i, i < ns → hia h 37 i = p (2010 + 2 * i) ∧ hia h 38 i = p (2010 + 2 * i + 1) ∧ ∃ x, x < 4 ∧ p (2010 + 2 * i) = nI x) (Q : RT) : callD (d + 3) 126 [.ref 24, .int (nI r)] h Q = Q (some (.int (b01 (seB p r ns 0 = true)))) h := by
  have L := fun lm => x_l_seen d r ns hr hn s V iv w6 sn Q lm ns 0 (by omega)
  rw [E_Di_isAsSeen]
  simp only [U_Di_isAsSeen (cm _), SA, SB, SG, SV, L]
def cbF (p : RW) (ns : Nat) (s : Int32) (r : Nat) : Int32 := if seB p r ns 0 = true then s ||| sh1 r else s
def cbV (p : RW) (ns : Nat) : Int32 := itr (cbF p ns) 0 7 (nI 0)
theorem x_l_canBe (d ns : Nat) (hn : ns ≤ 6) {h : MH} {p : RW} (s : XS h) (V : NeV h 26 p) (iv : IV p) (w6 : hfi h 25 6 = nI ns) (sn : ∀ i, i < ns → hia h 37 i = p (2010 + 2 * i) ∧ hia h 38 i = p (2010 + 2 * i + 1) ∧ ∃ x, x < 4 ∧ p (2010 + 2 * i) = nI x) (Q : RT) (lm : Nat × Nat) : ∀ (m k : Nat) (x : Int32), k + m = 7 → WP cd_Di_canBe (callD (d + 3)) Q lm 4 [] [some (.ref 24), some (.int x), some (.int (nI k))] h = Q (some (.int (itr (cbF p ns) k m x))) h
  | 0, k, x, e => by
    rw [U_Di_canBe_4 (cm _), itr_0]
    simp (disch := omega) only [U_Di_canBe (cm _), SA, SB, SC1, SC2, SG, SK, SV, leI, show 7 ≤ k by omega, true_or, or_true, true_implies, not_true_eq_false, not_false_eq_true, false_implies, true_and, and_true]
  | m + 1, k, x, e => by
    have ih := x_l_canBe d ns hn s V iv w6 sn Q lm m (k + 1) (cbF p ns x k) (by omega)
    have k7 := s.1.1
    have C := fun Q => x_isAsSeen d k ns (by omega) hn s V iv w6 sn Q
    rw [U_Di_canBe_4 (cm _), itr_s, ← ih]
    unfold cbF
    by_cases c : seB p k ns 0 = true
    · rw [b01_t c] at C
      rw [if_pos c]
      simp (disch := omega) only [U_Di_canBe (cm _), SA, SB, SC1, SC2, SG, SK, SV, k7, C, leI, eqI, Nat.one_ne_zero, show ¬ 7 ≤ k by omega, nI_add, sh1, true_or, or_true, true_implies, not_true_eq_false, not_false_eq_true, false_implies, true_and, and_true]
    · rw [b01_f c] at C
      rw [if_neg c]
      simp (disch := omega) only [U_Di_canBe (cm _), SA, SB, SC1, SC2, SG, SK, SV, k7, C, leI, eqI, Nat.one_ne_zero, show ¬ 7 ≤ k by omega, nI_add, true_or, or_true, true_implies, not_true_eq_false, not_false_eq_true, false_implies, true_and, and_true]
theorem x_canBe (d ns : Nat) (hn : ns ≤ 6) {h : MH} {p : RW} (s : XS h) (V : NeV h 26 p) (iv : IV p) (w6 : hfi h 25 6 = nI ns) (sn : ∀ i, i < ns → hia h 37 i = p (2010 + 2 * i) ∧ hia h 38 i = p (2010 + 2 * i + 1) ∧ ∃ x, x < 4 ∧ p (2010 + 2 * i) = nI x) (Q : RT) : callD (d + 4) 103 [.ref 24] h Q = Q (some (.int (cbV p ns))) h := by
  have L := fun lm => x_l_canBe d ns hn s V iv w6 sn Q lm 7 0 (nI 0) (by omega)
  rw [E_Di_canBe]
  unfold cbV
  simp only [U_Di_canBe (cm _), SA, SB, SG, SV, L]
theorem m_l_so (d r ns : Nat) (hr : r < 7) (hn : ns ≤ 6) {h : MH} {p : RW} (hM : MoS h) (hp : hia h 275 = p) (p0 : p 0 = nI ns) (sn : ∀ i, i < ns → ∃ x, x < 4 ∧ p (2010 + 2 * i) = nI x) (x : Int32) (Q : RT) (lm : Nat × Nat) : ∀ (m k : Nat) (b : Bool), k + m = ns → (∀ w3 w4, WP cd_Mo_thatCanBe (callD (d + 3)) Q lm 4 [] [some (.ref 273), some (.int (if (b && seB p r m k) = true then x ||| sh1 r else x)), some (.int (nI (r + 1))), w3, w4] h) → WP cd_Mo_thatCanBe (callD (d + 3)) Q lm 15 [] [some (.ref 273), some (.int x), some (.int (nI r)), some (.int (if b = true then nI 1 else nI 0)), some (.int (nI k))] h
  | 0, k, b, e, K => by
    obtain ⟨k8, r2, r3, r4⟩ := hM.row
    have e0 : hia h 275 0 = nI ns := by rw [hp]; exact p0
    rw [show seB p r 0 k = true from rfl, Bool.and_true] at K
    rw [U_Mo_thatCanBe_15 (cm _)]
    cases b with
    | true =>
      have Y := K (some (.int (nI 1))) (some (.int (nI k)))
      rw [if_pos rfl] at Y ⊢
      unfold sh1 at Y
      simp (disch := omega) only [U_Mo_thatCanBe (cm _), SA, SB, SC1, SC2, SG, SK, SV, k8, r2, r3, r4, e0, leI, eqI, Nat.one_ne_zero, show ns ≤ k by omega, nI_add, nI_clamp, in_eq, Nat.reduceLeDiff, true_or, or_true, true_implies, not_true_eq_false, not_false_eq_true, false_implies, true_and, and_true]
      exact Y
    | false =>
      have Y := K (some (.int (nI 0))) (some (.int (nI k)))
      rw [if_neg (by decide)] at Y ⊢
      simp (disch := omega) only [U_Mo_thatCanBe (cm _), SA, SB, SC1, SC2, SG, SK, SV, k8, r2, r3, r4, e0, leI, eqI, Nat.one_ne_zero, show ns ≤ k by omega, nI_add, or_0, nI_clamp, in_eq, Nat.reduceLeDiff, true_or, or_true, true_implies, not_true_eq_false, not_false_eq_true, false_implies, true_and, and_true]
      exact Y
  | m + 1, k, b, e, K => by
    obtain ⟨k8, r2, r3, r4⟩ := hM.row
    have e0 : hia h 275 0 = nI ns := by rw [hp]; exact p0
    obtain ⟨f, hf, s3⟩ := sn k (by omega)
    have s3' : hia h 275 (2010 + 2 * k) = nI f := by rw [hp]; exact s3
    have s4' : hia h 275 (2010 + 2 * k + 1) = p (2010 + 2 * k + 1) := by rw [hp]
    have FA := fun Q => m_factOf d r f hr hf hM hp Q
    rw [seB_s, s3, nn_n (by omega)] at K
    rw [U_Mo_thatCanBe_15 (cm _)]
    cases b with
    | true =>
      rw [Bool.true_and] at K
      rw [if_pos rfl]
      by_cases c : fcV p r f = p (2010 + 2 * k + 1)
      · rw [decide_eq_true c] at K
        have ih := m_l_so d r ns hr hn hM hp p0 sn x Q lm m (k + 1) true (by omega) K
        rw [if_pos rfl] at ih
        simp (disch := omega) only [U_Mo_thatCanBe (cm _), SA, SB, SC1, SC2, SG, SK, SV, k8, r2, r3, r4, e0, s3', s4', FA, c, leI, eqI, Nat.one_ne_zero, show ¬ ns ≤ k by omega, pk_mul, nI_add, nI_clamp, in_eq, Nat.reduceLeDiff, true_or, or_true, true_implies, not_true_eq_false, not_false_eq_true, false_implies, true_and, and_true]
        exact ih
      · rw [decide_eq_false c] at K
        have ih := m_l_so d r ns hr hn hM hp p0 sn x Q lm m (k + 1) false (by omega) K
        rw [if_neg (by decide)] at ih
        simp (disch := omega) only [U_Mo_thatCanBe (cm _), SA, SB, SC1, SC2, SG, SK, SV, k8, r2, r3, r4, e0, s3', s4', FA, c, leI, eqI, Nat.one_ne_zero, show ¬ ns ≤ k by omega, pk_mul, nI_add, nI_clamp, in_eq, Nat.reduceLeDiff, true_or, or_true, true_implies, not_true_eq_false, not_false_eq_true, false_implies, true_and, and_true]
        exact ih
    | false =>
      have ih := m_l_so d r ns hr hn hM hp p0 sn x Q lm m (k + 1) false (by omega) (fun w3 w4 => by
        have Y := K w3 w4
        rw [Bool.false_and, if_neg (by decide)] at Y ⊢
        exact Y)
      rw [if_neg (by decide)] at ih ⊢
      simp (disch := omega) only [U_Mo_thatCanBe (cm _), SA, SB, SC1, SC2, SG, SK, SV, k8, r2, r3, r4, e0, leI, eqI, Nat.one_ne_zero, show ¬ ns ≤ k by omega, nI_add, nI_clamp, in_eq, Nat.reduceLeDiff, true_or, or_true, true_implies, not_true_eq_false, not_false_eq_true, false_implies, true_and, and_true]
      exact ih
theorem m_l_tcb (d ns : Nat) (hn : ns ≤ 6) {h : MH} {p : RW} (hM : MoS h) (hp : hia h 275 = p) (p0 : p 0 = nI ns) (sn : ∀ i, i < ns → ∃ x, x < 4 ∧ p (2010 + 2 * i) = nI x) (Q : RT) (lm : Nat × Nat) : ∀ (m k : Nat) (x : Int32) (w3 w4 : Option Value), k + m = 7 → Q (some (.int (itr (cbF p ns) k m x))) h → WP cd_Mo_thatCanBe (callD (d + 3)) Q lm 4 [] [some (.ref 273), some (.int x), some (.int (nI k)), w3, w4] h
  | 0, k, x, w3, w4, e, Y => by
    rw [itr_0] at Y
    rw [U_Mo_thatCanBe_4 (cm _)]
    simp (disch := omega) only [U_Mo_thatCanBe (cm _), SA, SB, SC1, SC2, SG, SK, SV, leI, show 7 ≤ k by omega, true_or, or_true, true_implies, not_true_eq_false, not_false_eq_true, false_implies, true_and, and_true]
    exact Y
  | m + 1, k, x, w3, w4, e, Y => by
    rw [itr_s] at Y
    have IN := m_l_so d k ns (by omega) hn hM hp p0 sn x Q lm ns 0 true (by omega) (fun w3 w4 => by
      rw [Bool.true_and]
      exact m_l_tcb d ns hn hM hp p0 sn Q lm m (k + 1) (cbF p ns x k) w3 w4 (by omega) Y)
    rw [if_pos rfl] at IN
    rw [U_Mo_thatCanBe_4 (cm _)]
    simp (disch := omega) only [U_Mo_thatCanBe (cm _), SA, SB, SC1, SC2, SG, SK, SV, leI, show ¬ 7 ≤ k by omega, true_or, or_true, true_implies, not_true_eq_false, not_false_eq_true, false_implies, true_and, and_true]
    exact IN
theorem m_thatCanBe (d ns : Nat) (hn : ns ≤ 6) {h : MH} {p : RW} (hM : MoS h) (hp : hia h 275 = p) (p0 : p 0 = nI ns) (sn : ∀ i, i < ns → ∃ x, x < 4 ∧ p (2010 + 2 * i) = nI x) (Q : RT) (K : Q (some (.int (cbV p ns))) h) : callD (d + 4) 230 [.ref 273] h Q := by
  rw [E_Mo_thatCanBe]
  simp only [U_Mo_thatCanBe (cm _), SA, SB, SG, SV]
  exact m_l_tcb d ns hn hM hp p0 sn Q _ 7 0 (nI 0) none none (by omega) K
theorem op_canBe : PairOp 5 103 231 [] := PairK (fun d h g => by
  obtain ⟨V, iv, ⟨w4, w5, w6, w7, w8⟩, -, ⟨ns, n1, n2, n3⟩, -⟩ := g.2.2.2.1
  refine ⟨.int (cbV (hia h 275) ns), fun Q K => ?_, fun h1 kp g1 Q K => ?_⟩
  · rw [x_canBe (d + 1) ns n1 g.1 V iv (w6.trans n2) (fun i hi => ⟨(n3 i hi).1, (n3 i hi).2.1, (n3 i hi).2.2.1⟩)]
    exact K h (KP.refl h)
  · have e1 : hia h1 275 = hia h 275 := kp.2.2.2.2.1 275 (scr_n (by omega))
    obtain ⟨hM2, ei2, -, kp2⟩ := thM g1.2.1.1
    have k8 := g1.2.1.1.1
    have Y := K _ kp2
    generalize hh : thH h1 = h2 at *
    unfold thH at hh
    have k82 := hM2.1
    rw [E_Mo_canBe]
    simp (disch := omega) only [U_Mo_canBe (cm _), SA, SB, SC1, SC2, SG, SK, SV, hh, k8, k82, true_or, or_true, true_implies, not_true_eq_false, not_false_eq_true, false_implies, true_and, and_true]
    refine m_thatCanBe d ns n1 hM2 (by rw [ei2, e1]) n2 (fun i hi => (n3 i hi).2.2.1) _ ?_
    simp only [U_Mo_canBe (cm _), SA, SB, SG, SV]
    exact Y)
