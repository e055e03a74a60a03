/-! ===== few ===== -/
def fwN (sl : Int32) (g : Nat → Int64) (s : Nat) : Int64 := g s * (nI 10 - sl).toInt64 / lN 10 + (if s = 0 then lN 0 else g (s - 1) * sl.toInt64 / lN 10)
def fwK (sl : Int32) : Nat → Nat → Int64
  | 0 => fun j => if j = 0 then lN 1000000000000 else lN 0
  | i + 1 => fwN sl (fwK sl i)
theorem add_l0 (x : Int64) : x + lN 0 = x := by
  apply Int64.toBitVec_inj.mp
  show x.toBitVec + 0#64 = x.toBitVec
  exact BitVec.add_zero _
theorem ln10 : ¬ lN 10 = lN 0 := by decide
def fuX (h : MH) (c : Nat → Int64) : MH := sJA h 242 c
theorem x_l_f1 (d k n i : Nat) (hk : 1 ≤ k ∧ k ≤ 20) {h : MH} {sl : Int32} {g : Nat → Int64} (s : XS h) (wsl : hfi h 25 7 = sl) (Q : RT) (lm : Nat × Nat) : ∀ (m : Nat) (c : Nat → Int64) (w5 w6 w7 w8 : Option Value), m ≤ k → (∀ j, j < m → c j = g j) → (∀ j, m ≤ j → j < k → c j = fwN sl g j) → (∀ c' w4 w5 w6 w7 w8, (∀ j, j < k → c' j = fwN sl g j) → WP cd_Di_few (callD d) Q lm 44 [] [some (.ref 24), some (.int (nI k)), some (.int (nI n)), some (.int (nI (i + 1))), w4, w5, w6, w7, w8] (sJA h 242 c')) → WP cd_Di_few (callD d) Q lm 54 [] [some (.ref 24), some (.int (nI k)), some (.int (nI n)), some (.int (nI i)), some (.int (dn m)), w5, w6, w7, w8] (sJA h 242 c)
  | 0, c, w5, w6, w7', w8, e, c1, c2, K => by
    have Y := K c (some (.int (dn 0))) w5 w6 w7' w8 (fun j hj => c2 j (by omega) hj)
    have z : dn 0 < nI 0 := by decide
    rw [U_Di_few_54 (cm _)]
    simp (disch := omega) only [U_Di_few (cm _), SA, SB, SC1, SC2, SG, SK, SV, z, nI_add, true_or, or_true, true_implies, not_true_eq_false, not_false_eq_true, false_implies, true_and, and_true]
    exact Y
  | m + 1, c, w5, w6, w7', w8, e, c1, c2, K => by
    have so := (s).1
    unfold XSo at so
    have sw := WoS_25 (s)
    unfold WoS at sw
    simp only [Nat.reduceAdd] at sw
    have cm1 := c1 m (by omega)
    have ih := fun w5 w6 w7 w8 => x_l_f1 d k n i hk s wsl Q lm m (up1 c m (fwN sl g m)) w5 w6 w7 w8 (by omega) (fun j hj => by rw [up1_n _ _ (by omega)]; exact c1 j (by omega)) (fun j h1 h2 => by
      by_cases q : j = m
      · subst q; rw [up1_s]
      · rw [up1_n _ _ q]; exact c2 j (by omega) h2) K
    rw [U_Di_few_54 (cm _), dn_1]
    have ds := dn_s m
    unfold fwN at ih
    by_cases q : m = 0
    · rw [if_pos q] at ih
      have Y := ih (some (.long (g m * (nI 10 - sl).toInt64 / lN 10))) none (some (.long (lN 0))) none
      subst q
      simp (disch := omega) only [U_Di_few (cm _), SA, SB, SC1, SC2, SG, SK, SV, so, sw, wsl, cm1, up1_s, ln10, ltI, eqI, eq_self, Nat.not_lt_zero, ds, nI_clamp, in_eq, Nat.reduceLeDiff, true_or, or_true, true_implies, not_true_eq_false, not_false_eq_true, false_implies, true_and, and_true]
      exact Y
    · rw [if_neg q] at ih
      have cm2 := c1 (m - 1) (by omega)
      have Y := ih (some (.long (g m * (nI 10 - sl).toInt64 / lN 10))) none (some (.long (g (m - 1) * sl.toInt64 / lN 10))) none
      simp (disch := omega) only [U_Di_few (cm _), SA, SB, SC1, SC2, SG, SK, SV, so, sw, wsl, cm1, cm2, up1_s, ln10, ltI, eqI, q, Nat.not_lt_zero, ds, pk_sub, nI_clamp, in_eq, Nat.reduceLeDiff, true_or, or_true, true_implies, not_true_eq_false, not_false_eq_true, false_implies, true_and, and_true]
      exact Y
def fsV (g : Nat → Int64) (k : Nat) : Int64 := itr (fun s i => s + g i) 0 k (lN 0)
theorem x_l_f3 (d k : Nat) (hk : 1 ≤ k ∧ k ≤ 20) {h : MH} {g : Nat → Int64} (s : XS h) (Q : RT) (lm : Nat × Nat) (nv : Int32) (c : Nat → Int64) (hc : ∀ j, j < k → c j = g j) (w6 w7 w8 : Option Value) : ∀ (m i : Nat) (x : Int64), i + m = k → Q (some (.long (itr (fun s i => s + g i) i m x))) (sJA h 242 c) → WP cd_Di_few (callD d) Q lm 146 [] [some (.ref 24), some (.int (nI k)), some (.int nv), some (.long x), none, some (.int (nI i)), w6, w7, w8] (sJA h 242 c)
  | 0, i, x, e, Y => by
    rw [itr_0] at Y
    rw [U_Di_few_146 (cm _)]
    simp (disch := omega) only [U_Di_few (cm _), SA, SB, SC1, SC2, SG, SK, SV, leI, show k ≤ i by omega, true_or, or_true, true_implies, not_true_eq_false, not_false_eq_true, false_implies, true_and, and_true]
    exact Y
  | m + 1, i, x, e, Y => by
    rw [itr_s] at Y
    have so := (s).1
    unfold XSo at so
    have ci := hc i (by omega)
    have ih := x_l_f3 d k hk s Q lm nv c hc w6 w7 w8 m (i + 1) (x + g i) (by omega) Y
    rw [U_Di_few_146 (cm _)]
    simp (disch := omega) only [U_Di_few (cm _), SA, SB, SC1, SC2, SG, SK, SV, so, ci, up1_s, leI, show ¬ k ≤ i by omega, nI_add, nI_clamp, in_eq, Nat.reduceLeDiff, true_or, or_true, true_implies, not_true_eq_false, not_false_eq_true, false_implies, true_and, and_true]
    exact ih
theorem x_l_f2 (d k n : Nat) (hk : 1 ≤ k ∧ k ≤ 20) (hn : n ≤ 99) {h : MH} {sl : Int32} (s : XS h) (wsl : hfi h 25 7 = sl) (Q : RT) (lm : Nat × Nat) (K : ∀ c', Q (some (.long (fsV (fwK sl n) k))) (sJA h 242 c')) : ∀ (m i : Nat) (c : Nat → Int64) (w4 w5 w6 w7 w8 : Option Value), i + m = n → (∀ j, j < k → c j = fwK sl i j) → WP cd_Di_few (callD d) Q lm 44 [] [some (.ref 24), some (.int (nI k)), some (.int (nI n)), some (.int (nI i)), w4, w5, w6, w7, w8] (sJA h 242 c)
  | 0, i, c, w4, w5, w6, w7', w8, e, hc => by
    obtain rfl : i = n := by omega
    rw [U_Di_few_44 (cm _)]
    simp (disch := omega) only [U_Di_few (cm _), SA, SB, SC1, SC2, SG, SK, SV, leI, Nat.le_refl, true_or, or_true, true_implies, not_true_eq_false, not_false_eq_true, false_implies, true_and, and_true]
    exact x_l_f3 d k hk s Q lm (nI i) c hc w6 w7' w8 k 0 (lN 0) (by omega) (K c)
  | m + 1, i, c, w4, w5, w6, w7', w8, e, hc => by
    have e1 : nI k - nI 1 = dn k := by
      obtain ⟨j, rfl⟩ : ∃ j, k = j + 1 := ⟨k - 1, by omega⟩
      rw [dn_1, pk_sub (by omega)]; rfl
    rw [U_Di_few_44 (cm _)]
    simp (disch := omega) only [U_Di_few (cm _), SA, SB, SC1, SC2, SG, SK, SV, leI, show ¬ n ≤ i by omega, e1, true_or, or_true, true_implies, not_true_eq_false, not_false_eq_true, false_implies, true_and, and_true]
    exact x_l_f1 d k n i hk s wsl Q lm k c w5 w6 w7' w8 (Nat.le_refl k) hc (fun j h1 h2 => by omega) (fun c' w4 w5 w6 w7 w8 hc' => x_l_f2 d k n hk hn s wsl Q lm K m (i + 1) c' w4 w5 w6 w7 w8 (by omega) hc')
theorem x_l_fJ (d : Nat) (v : Int64) {h : MH} (ka : hkd h 242 = 21) (la : hln h 242 = 20) (Q : RT) (lm : Nat × Nat) : ∀ (m k : Nat) (f : Nat → Int64), k + m = 20 → (∀ f', (∀ j, f' j = if k ≤ j ∧ j < 20 then v else f j) → Q none (sJA h 242 f')) → WP cd_J_fillJ (callD d) Q lm 6 [] [some (.ref 242), some (.long v), none, some (.int (nI k)), some (.int (nI 20))] (sJA h 242 f)
  | 0, k, f, e, K => by
    rw [U_J_fillJ_6 (cm _)]
    simp (disch := omega) only [U_J_fillJ (cm _), SA, SB, SC1, SC2, SG, SK, SV, leI, show 20 ≤ k by omega, true_or, or_true, true_implies, not_true_eq_false, not_false_eq_true, false_implies, true_and, and_true]
    exact K f (fun j => by rw [if_neg (by omega)])
  | m + 1, k, f, e, K => by
    have ih := x_l_fJ d v ka la Q lm m (k + 1) (up1 f k v) (by omega) (fun f' hf => K f' (fun j => by
      rw [hf j]
      by_cases c : j = k
      · subst c; rw [if_neg (by omega), if_pos (by omega), up1_s]
      · by_cases c2 : k + 1 ≤ j ∧ j < 20
        · rw [if_pos c2, if_pos (by omega)]
        · rw [if_neg c2, if_neg (by omega), up1_n _ _ c]))
    rw [U_J_fillJ_6 (cm _)]
    simp (disch := omega) only [U_J_fillJ (cm _), SA, SB, SC1, SC2, SG, SK, SV, ka, la, up1_s, leI, show ¬ 20 ≤ k by omega, nI_add, nI_clamp, in_eq, Nat.reduceLeDiff, true_or, or_true, true_implies, not_true_eq_false, not_false_eq_true, false_implies, true_and, and_true]
    exact ih
theorem m_l_f0 (d : Nat) {h : MH} (hM : MoS h) (kI nv : Int32) (Q : RT) (lm : Nat × Nat) (w4 w5 w6 w7 : Option Value) : ∀ (m k : Nat) (f : Nat → Int64), k + m = 21 → (∀ f', (∀ j, k ≤ j → j < 21 → f' j = fwK 0 0 j) → (∀ j, j < k → f' j = f j) → WP cd_Mo_few (callD d) Q lm 74 [] [some (.ref 273), some (.int kI), some (.int nv), some (.int (hia h 275 3)), some (.int (nI 0)), w5, w6, w7] (sJA h 296 f')) → WP cd_Mo_few (callD d) Q lm 35 [] [some (.ref 273), some (.int kI), some (.int nv), some (.int (nI k)), w4, w5, w6, w7] (sJA h 296 f)
  | 0, k, f, e, K => by
    obtain ⟨k8, r2, r3, r4⟩ := hM.row
    have Y := K f (fun j h1 h2 => by omega) (fun j _ => rfl)
    rw [U_Mo_few_35 (cm _)]
    simp (disch := omega) only [U_Mo_few (cm _), SA, SB, SC1, SC2, SG, SK, SV, k8, r2, r3, r4, leI, show 21 ≤ k by omega, nI_clamp, in_eq, Nat.reduceLeDiff, true_or, or_true, true_implies, not_true_eq_false, not_false_eq_true, false_implies, true_and, and_true]
    exact Y
  | m + 1, k, f, e, K => by
    have k8 := hM.1
    obtain ⟨s1, s2, s3⟩ := hM.a296
    have ih := m_l_f0 d hM kI nv Q lm w4 w5 w6 w7 m (k + 1) (up1 f k (fwK 0 0 k)) (by omega) (fun f' h1 h2 => K f' (fun j j1 j2 => by
      by_cases e : j = k
      · subst e; rw [h2 j (by omega), up1_s]
      · exact h1 j (by omega) j2) (fun j hj => by rw [h2 j (by omega), up1_n _ _ (by omega)]))
    rw [U_Mo_few_35 (cm _)]
    unfold fwK at ih
    by_cases c : k = 0
    · rw [if_pos c] at ih
      simp (disch := omega) only [U_Mo_few (cm _), SA, SB, SC1, SC2, SG, SK, SV, k8, s1, s2, s3, up1_s, leI, eqI, c, show ¬ 21 ≤ k by omega, nI_add, nI_clamp, in_eq, Nat.reduceLeDiff, Nat.le_zero_eq, Nat.reduceEqDiff, Nat.zero_add, true_or, or_true, true_implies, not_true_eq_false, not_false_eq_true, false_implies, true_and, and_true]
      subst c
      exact ih
    · rw [if_neg c] at ih
      simp (disch := omega) only [U_Mo_few (cm _), SA, SB, SC1, SC2, SG, SK, SV, k8, s1, s2, s3, up1_s, leI, eqI, c, show ¬ 21 ≤ k by omega, nI_add, nI_clamp, in_eq, Nat.reduceLeDiff, true_or, or_true, true_implies, not_true_eq_false, not_false_eq_true, false_implies, true_and, and_true]
      exact ih
theorem m_l_f1 (d k n i : Nat) (hk : 1 ≤ k ∧ k ≤ 20) {h : MH} {sl : Int32} {g : Nat → Int64} (hM : MoS h) (Q : RT) (lm : Nat × Nat) : ∀ (m : Nat) (c : Nat → Int64) (w6 w7 : Option Value), m ≤ k → (∀ j, j < m → c j = g j) → (m < k → c m = g m * (nI 10 - sl).toInt64 / lN 10) → (∀ j, m < j → j < k → c j = fwN sl g j) → (∀ c' w5 w6 w7, (∀ j, j < k → c' j = fwN sl g j) → WP cd_Mo_few (callD d) Q lm 74 [] [some (.ref 273), some (.int (nI k)), some (.int (nI n)), some (.int sl), some (.int (nI (i + 1))), w5, w6, w7] (sJA h 296 c')) → WP cd_Mo_few (callD d) Q lm 85 [] [some (.ref 273), some (.int (nI k)), some (.int (nI n)), some (.int sl), some (.int (nI i)), some (.int (dn m)), w6, w7] (sJA h 296 c)
  | 0, c, w6, w7, e, c1, c0, c2, K => by
    have Y := K c (some (.int (dn 0))) w6 w7 (fun j hj => by
      by_cases q : j = 0
      · subst q
        rw [c0 hj]; unfold fwN
        rw [if_pos rfl, add_l0]
      · exact c2 j (by omega) hj)
    have z : dn 0 < nI 0 := by decide
    rw [U_Mo_few_85 (cm _)]
    simp (disch := omega) only [U_Mo_few (cm _), SA, SB, SC1, SC2, SG, SK, SV, z, nI_add, true_or, or_true, true_implies, not_true_eq_false, not_false_eq_true, false_implies, true_and, and_true]
    exact Y
  | m + 1, c, w6, w7, e, c1, c0, c2, K => by
    have k8 := hM.1
    obtain ⟨s1, s2, s3⟩ := hM.a296
    have cm1 := c1 m (by omega)
    have ds := dn_s m
    have ih := m_l_f1 d k n i hk (sl := sl) (g := g) hM Q lm m (up1 (up1 c m (g m * (nI 10 - sl).toInt64 / lN 10)) (m + 1) (c (m + 1) + g m * sl.toInt64 / lN 10)) (some (.long (g m))) none (by omega) (fun j hj => by rw [up1_n _ _ (by omega), up1_n _ _ (by omega)]; exact c1 j (by omega)) (fun _ => by rw [up1_n _ _ (by omega), up1_s]) (fun j h1 h2 => by
      by_cases q : j = m + 1
      · subst q
        rw [up1_s, c0 h2]
        unfold fwN
        rw [if_neg (by omega), Nat.add_sub_cancel]
      · rw [up1_n _ _ q, up1_n _ _ (by omega)]; exact c2 j (by omega) h2) K
    have q1 : up1 c m (g m * (nI 10 - sl).toInt64 / lN 10) (m + 1) = c (m + 1) := up1_n _ _ (by omega)
    rw [U_Mo_few_85 (cm _), dn_1]
    simp (disch := omega) only [U_Mo_few (cm _), SA, SB, SC1, SC2, SG, SK, SV, k8, s1, s2, s3, cm1, up1_s, q1, ln10, ltI, Nat.not_lt_zero, ds, nI_add, nI_clamp, in_eq, Nat.reduceLeDiff, true_or, or_true, true_implies, not_true_eq_false, not_false_eq_true, false_implies, true_and, and_true]
    exact ih
theorem m_l_f3 (d k : Nat) (hk : 1 ≤ k ∧ k ≤ 20) {h : MH} {g : Nat → Int64} (hM : MoS h) (Q : RT) (lm : Nat × Nat) (nv sl : Int32) (c : Nat → Int64) (hc : ∀ j, j < k → c j = g j) (w7 : Option Value) : ∀ (m i : Nat) (x : Int64), i + m = k → Q (some (.long (itr (fun s i => s + g i) i m x))) (sJA h 296 c) → WP cd_Mo_few (callD d) Q lm 157 [] [some (.ref 273), some (.int (nI k)), some (.int nv), some (.int sl), some (.long x), none, some (.int (nI i)), w7] (sJA h 296 c)
  | 0, i, x, e, Y => by
    rw [itr_0] at Y
    rw [U_Mo_few_157 (cm _)]
    simp (disch := omega) only [U_Mo_few (cm _), SA, SB, SC1, SC2, SG, SK, SV, leI, show k ≤ i by omega, true_or, or_true, true_implies, not_true_eq_false, not_false_eq_true, false_implies, true_and, and_true]
    exact Y
  | m + 1, i, x, e, Y => by
    rw [itr_s] at Y
    have k8 := hM.1
    obtain ⟨s1, s2, s3⟩ := hM.a296
    have ci := hc i (by omega)
    have ih := m_l_f3 d k hk hM Q lm nv sl c hc w7 m (i + 1) (x + g i) (by omega) Y
    rw [U_Mo_few_157 (cm _)]
    simp (disch := omega) only [U_Mo_few (cm _), SA, SB, SC1, SC2, SG, SK, SV, k8, s1, s2, s3, ci, up1_s, leI, show ¬ k ≤ i by omega, nI_add, nI_clamp, in_eq, Nat.reduceLeDiff, true_or, or_true, true_implies, not_true_eq_false, not_false_eq_true, false_implies, true_and, and_true]
    exact ih
theorem m_l_f2 (d k n : Nat) (hk : 1 ≤ k ∧ k ≤ 20) (hn : n ≤ 99) {h : MH} {sl : Int32} (hM : MoS h) (Q : RT) (lm : Nat × Nat) (K : ∀ c', Q (some (.long (fsV (fwK sl n) k))) (sJA h 296 c')) : ∀ (m i : Nat) (c : Nat → Int64) (w5 w6 w7 : Option Value), i + m = n → (∀ j, j < k → c j = fwK sl i j) → WP cd_Mo_few (callD d) Q lm 74 [] [some (.ref 273), some (.int (nI k)), some (.int (nI n)), some (.int sl), some (.int (nI i)), w5, w6, w7] (sJA h 296 c)
  | 0, i, c, w5, w6, w7, e, hc => by
    obtain rfl : i = n := by omega
    rw [U_Mo_few_74 (cm _)]
    simp (disch := omega) only [U_Mo_few (cm _), SA, SB, SC1, SC2, SG, SK, SV, leI, Nat.le_refl, true_or, or_true, true_implies, not_true_eq_false, not_false_eq_true, false_implies, true_and, and_true]
    exact m_l_f3 d k hk hM Q lm (nI i) sl c hc w7 k 0 (lN 0) (by omega) (K c)
  | m + 1, i, c, w5, w6, w7, e, hc => by
    have e1 : nI k - nI 1 = dn k := by
      obtain ⟨j, rfl⟩ : ∃ j, k = j + 1 := ⟨k - 1, by omega⟩
      rw [dn_1, pk_sub (by omega)]; rfl
    rw [U_Mo_few_74 (cm _)]
    simp (disch := omega) only [U_Mo_few (cm _), SA, SB, SC1, SC2, SG, SK, SV, leI, show ¬ n ≤ i by omega, e1, true_or, or_true, true_implies, not_true_eq_false, not_false_eq_true, false_implies, true_and, and_true]
    exact m_l_f1 d k n i hk hM Q lm k c w6 w7 (Nat.le_refl k) hc (fun z => by omega) (fun j h1 h2 => by omega) (fun c' w5 w6 w7 hc' => m_l_f2 d k n hk hn hM Q lm K m (i + 1) c' w5 w6 w7 (by omega) hc')
theorem KP_ja (h : MH) {a : Nat} (f : Nat → Int64) (ha : a = 242 ∨ a = 296) : KP h (sJA h a f) := ⟨⟨rfl, rfl, rfl, SHE.refl h⟩, fun _ _ _ _ _ _ => rfl, ⟨rfl, rfl⟩, fun _ _ => rfl, fun _ _ => rfl, fun b hb => up1_n (hja h) f (by omega), fun _ _ => rfl⟩
theorem op_few (k n : Int32) : PairOp 3 105 234 [.int k, .int n] := PairK (fun d h g => by
  obtain ⟨-, -, ⟨-, -, -, wsl, -⟩, -⟩ := g.2.2.2.1
  have so := (g.1).1
  unfold XSo at so
  have I1 := fun h Q => e_in (d + 1) k.toInt64 (lN 1) (lN 20) h Q
  have I2 := fun h Q => e_in (d + 1) n.toInt64 (lN 0) (lN 99) h Q
  have q1 := i2l_rr k 1 20 (by omega) (by omega)
  have q2 := i2l_r n 99 (by omega)
  by_cases c : (nI 1 ≤ k ∧ k ≤ nI 20) ∧ rgI n 99
  · obtain ⟨c1, c2⟩ := c
    rw [b01_t (by rw [q1]; exact c1)] at I1
    rw [b01_t (by rw [q2]; exact c2)] at I2
    obtain ⟨k', hk, rfl⟩ := rg_n (m := 20) (by omega) ⟨Int32.le_trans (show nI 0 ≤ nI 1 by decide) c1.1, c1.2⟩
    obtain ⟨n', hn, rfl⟩ := rg_n (by omega) c2
    have k1 : 1 ≤ k' := by have := c1.1; rw [leI (by omega) (by omega)] at this; exact this
    refine ⟨.long (fsV (fwK (hia h 275 3) n') k'), fun Q K => ?_, fun h1 kp g1 Q K => ?_⟩
    · have L := fun lm f h0 w4 w5 w6 w7 w8 => x_l_f2 (d + 2) k' n' ⟨k1, hk⟩ hn g.1 wsl Q lm (fun c' => K _ (KP_ja h c' (Or.inl rfl))) n' 0 f w4 w5 w6 w7 w8 (by omega) h0
      rw [E_Di_few]
      simp (disch := omega) only [U_Di_few (cm _), SA, SB, SC1, SC2, SG, SK, SV, so, ltI, leI, show ¬ k' < 1 by omega, show ¬ 20 < k' by omega, hn, Nat.not_lt_zero, true_or, or_true, true_implies, not_true_eq_false, not_false_eq_true, false_implies, true_and, and_true]
      rw [E_J_fillJ]
      have FJ := fun lm Q K => x_l_fJ (d + 1) (lN 0) so.2.2.2.2.2.2.2.2.2.2.2.2.2.2.1 so.2.2.2.2.2.2.2.2.2.2.2.2.2.2.2.1 Q lm 20 0 (hja h 242) (by omega) K
      rw [sJA_id] at FJ
      simp (disch := omega) only [U_J_fillJ (cm _), SA, SB, SC1, SC2, SG, SK, SV, so, Nat.le_refl, Nat.reduceLeDiff, true_or, or_true, true_implies, not_true_eq_false, not_false_eq_true, false_implies, true_and, and_true]
      refine FJ _ _ (fun f' hf => ?_)
      simp (disch := omega) only [U_Di_few (cm _), SA, SB, SC1, SC2, SG, SK, SV, so, up1_s, nI_clamp, in_eq, Nat.reduceLeDiff, true_or, or_true, true_implies, not_true_eq_false, not_false_eq_true, false_implies, true_and, and_true]
      refine L _ _ (fun j hj => ?_) _ _ _ _ _
      show _ = if j = 0 then lN 1000000000000 else lN 0
      by_cases e : j = 0
      · subst e; rw [up1_s, if_pos rfl]
      · rw [up1_n _ _ e, if_neg e, hf j, if_pos (by omega)]
    · have e1 : hia h1 275 = hia h 275 := kp.2.2.2.2.1 275 (scr_n (by omega))
      obtain ⟨hM2, ei2, -, kp2⟩ := thM g1.2.1.1
      have k8 := g1.2.1.1.1
      have KK : ∀ c', KP h1 (sJA (thH h1) 296 c') := fun c' => kp2.trans (KP_ja _ c' (Or.inr rfl))
      generalize hh : thH h1 = h2 at *
      unfold thH at hh
      have e2 : hia h2 275 3 = hia h 275 3 := by rw [ei2, e1]
      have L := fun lm w4 w5 w6 w7 => m_l_f0 (d + 2) hM2 (nI k') (nI n') Q lm w4 w5 w6 w7 21 0 (hja h2 296) (by omega) (fun f' h1 _ => by
        rw [e2]
        exact m_l_f2 (d + 2) k' n' ⟨k1, hk⟩ hn hM2 Q lm (fun c' => K _ (KK c')) n' 0 f' w5 w6 w7 (by omega) (fun j hj => h1 j (by omega) (by omega)))
      rw [sJA_id] at L
      rw [E_Mo_few]
      simp (disch := omega) only [U_Mo_few (cm _), SA, SB, SC1, SC2, SG, SK, SV, hh, k8, I1, I2, eqI, Nat.one_ne_zero, true_or, or_true, true_implies, not_true_eq_false, not_false_eq_true, false_implies, true_and, and_true]
      exact L _ _ _ _ _
  · refine ⟨.long (-1), fun Q K => ?_, fun h1 kp g1 Q K => ?_⟩
    · have Y := K h (KP.refl h)
      rw [E_Di_few]
      by_cases a1 : k < nI 1
      · simp (disch := omega) only [U_Di_few (cm _), SA, SB, SC1, SC2, SG, SK, SV, a1, true_or, or_true, true_implies, not_true_eq_false, not_false_eq_true, false_implies, true_and, and_true]
        exact Y
      · by_cases a2 : ¬ nI 20 < k
        · have c2 : ¬ rgI n 99 := fun z => c ⟨⟨Int32.not_lt.mp a1, Int32.not_lt.mp a2⟩, z⟩
          rcases rg_no (by omega) c2 with z | ⟨z1, z2⟩
          · simp (disch := omega) only [U_Di_few (cm _), SA, SB, SC1, SC2, SG, SK, SV, a1, a2, z, true_or, or_true, true_implies, not_true_eq_false, not_false_eq_true, false_implies, true_and, and_true]
            exact Y
          · have z3 : ¬ n ≤ nI 99 := fun y => c2 ⟨Int32.not_lt.mp z1, y⟩
            simp (disch := omega) only [U_Di_few (cm _), SA, SB, SC1, SC2, SG, SK, SV, a1, a2, z1, z3, true_or, or_true, true_implies, not_true_eq_false, not_false_eq_true, false_implies, true_and, and_true]
            exact Y
        · have a2' := Decidable.not_not.mp a2
          simp (disch := omega) only [U_Di_few (cm _), SA, SB, SC1, SC2, SG, SK, SV, a1, a2', true_or, or_true, true_implies, not_true_eq_false, not_false_eq_true, false_implies, true_and, and_true]
          exact Y
    · obtain ⟨hM2, ei2, -, kp2⟩ := thM g1.2.1.1
      have k8 := g1.2.1.1.1
      have Y := K _ kp2
      generalize hh : thH h1 = h2 at *
      unfold thH at hh
      rw [E_Mo_few]
      by_cases c1 : nI 1 ≤ k ∧ k ≤ nI 20
      · rw [b01_t (by rw [q1]; exact c1)] at I1
        rw [b01_f (by rw [q2]; exact fun z => c ⟨c1, z⟩)] at I2
        simp (disch := omega) only [U_Mo_few (cm _), SA, SB, SC1, SC2, SG, SK, SV, hh, k8, I1, I2, eqI, Nat.one_ne_zero, true_or, or_true, true_implies, not_true_eq_false, not_false_eq_true, false_implies, true_and, and_true]
        exact Y
      · rw [b01_f (by rw [q1]; exact c1)] at I1
        simp (disch := omega) only [U_Mo_few (cm _), SA, SB, SC1, SC2, SG, SK, SV, hh, k8, I1, eqI, Nat.one_ne_zero, true_or, or_true, true_implies, not_true_eq_false, not_false_eq_true, false_implies, true_and, and_true]
        exact Y)
