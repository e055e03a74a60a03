theorem hia_n (h : MH) {a b : Nat} (f : Nat → Int32) (e : ¬ b = a) : hia (sIA h a f) b = hia h b := up1_n (hia h) f e
/-! ===== copies and shifts ===== -/
def cpyF (f g : Nat → Int32) (a b n i : Nat) : Nat → Int32 := fun j => if a + i ≤ j ∧ j < a + n then g (b + (j - a)) else f j
theorem cpyF_n (f g : Nat → Int32) (a b n : Nat) : cpyF f g a b n n = f := by funext j; unfold cpyF; rw [if_neg (by omega)]
theorem cpyF_s (f g : Nat → Int32) (a b n i : Nat) (h : i < n) : cpyF (up1 f (a + i) (g (b + i))) g a b n (i + 1) = cpyF f g a b n i := by
  funext j
  unfold cpyF
  by_cases c : j = a + i
  · subst c
    rw [if_neg (by omega), up1_s, if_pos (by omega), show b + (a + i - a) = b + i by omega]
  · rw [up1_n _ _ c]
    by_cases c2 : a + i ≤ j ∧ j < a + n
    · rw [if_pos c2, if_pos (by omega)]
    · rw [if_neg c2, if_neg (by omega)]
def shF (f : Nat → Int32) (a b s : Nat) : Nat → Int32 := fun j => if a ≤ j ∧ j < b then f (j + s) else f j
theorem shF_n (f : Nat → Int32) (a b s : Nat) (h : b ≤ a) : shF f a b s = f := by funext j; unfold shF; rw [if_neg (by omega)]
theorem shF_s (f : Nat → Int32) (a b s : Nat) (h : a < b) (hs : 0 < s) : shF (up1 f a (f (a + s))) (a + 1) b s = shF f a b s := by
  funext j
  unfold shF
  by_cases c : j = a
  · subst c
    rw [if_neg (by omega), up1_s, if_pos (by omega)]
  · by_cases c2 : a ≤ j ∧ j < b
    · rw [if_pos c2, if_pos (by omega), up1_n _ _ (by omega)]
    · rw [if_neg c2, if_neg (by omega), up1_n _ _ c]
theorem MoS.und {h : MH} (hM : MoS h) : hfr h 273 6 = some 278 ∧ hkd h 278 = 20 ∧ hln h 278 = 33231 ∧ hfr h 273 7 = some 279 ∧ hkd h 279 = 20 ∧ hln h 279 = 16 := by
  obtain ⟨-, -, -, -, -, ⟨a, b, c⟩, ⟨e, f, g⟩, -⟩ := hM
  exact ⟨a, b, c, e, f, g⟩
theorem l_keepAll (d k : Nat) (hk : k < 19) (Q : RT) (lm : Nat × Nat) : ∀ (m i : Nat) (h : MH), MoS h → i + m = 1749 → WP cd_Mo_keepAll (callD d) Q lm 2 [] [some (.ref 273), some (.int (nI k)), some (.int (nI i))] h = Q none (sIA h 278 (cpyF (hia h 278) (hia h 275) (1749 * k) 5 1749 i))
  | 0, i, h, hM, hi => by
    obtain rfl : i = 1749 := by omega
    rw [U_Mo_keepAll_2 (cm _)]
    simp (disch := omega) only [U_Mo_keepAll (cm _), SA, SB, SG, SV, leI, Nat.le_refl, true_implies, not_true_eq_false, false_implies, and_true, cpyF_n, sIA_id]
  | m + 1, i, h, hM, hi => by
    obtain ⟨m1, m2, m3, m4⟩ := hM.row
    obtain ⟨u2, u3, u4, -⟩ := hM.und
    have hk7 : ¬ 1749 ≤ i := by omega
    rw [U_Mo_keepAll_2 (cm _)]
    have ih := l_keepAll d k hk Q lm m (i + 1) (sIA h 278 (up1 (hia h 278) (1749 * k + i) (hia h 275 (5 + i)))) hM (by omega)
    rw [hia_s, hia_n h (a := 278) (b := 275) _ (by omega), cpyF_s _ _ _ _ _ _ (by omega), SK.2.2.2.1] at ih
    simp (disch := omega) only [U_Mo_keepAll (cm _), SA, SB, SG, SV, SK, leI, hk7, nI_add, pk_mul, nI_clamp, in_eq, m1, m2, m3, m4, u2, u3, u4, Nat.reduceLeDiff, true_implies, not_true_eq_false, not_false_eq_true, false_implies, and_true, true_and, ih]
theorem e_keepAll (d k : Nat) (hk : k < 19) {h : MH} (hM : MoS h) (Q : RT) : callD (d + 1) 135 [.ref 273, .int (nI k)] h Q = Q none (sIA h 278 (cpyF (hia h 278) (hia h 275) (1749 * k) 5 1749 0)) := by
  rw [E_Mo_keepAll]
  simp only [U_Mo_keepAll (cm _), SA, SB, SG, SV]
  exact l_keepAll d k hk Q _ 1749 0 h hM rfl
theorem l_putBack (d k : Nat) (hk : k < 19) (Q : RT) (lm : Nat × Nat) : ∀ (m i : Nat) (h : MH), MoS h → i + m = 1749 → WP cd_Mo_putBack (callD d) Q lm 2 [] [some (.ref 273), some (.int (nI k)), some (.int (nI i))] h = Q none (sIA h 275 (cpyF (hia h 275) (hia h 278) 5 (1749 * k) 1749 i))
  | 0, i, h, hM, hi => by
    obtain rfl : i = 1749 := by omega
    rw [U_Mo_putBack_2 (cm _)]
    simp (disch := omega) only [U_Mo_putBack (cm _), SA, SB, SG, SV, leI, Nat.le_refl, true_implies, not_true_eq_false, false_implies, and_true, cpyF_n, sIA_id]
  | m + 1, i, h, hM, hi => by
    obtain ⟨m1, m2, m3, m4⟩ := hM.row
    obtain ⟨u2, u3, u4, -⟩ := hM.und
    have hk7 : ¬ 1749 ≤ i := by omega
    rw [U_Mo_putBack_2 (cm _)]
    have ih := l_putBack d k hk Q lm m (i + 1) (sIA h 275 (up1 (hia h 275) (5 + i) (hia h 278 (1749 * k + i)))) hM (by omega)
    rw [hia_s, hia_n h (a := 275) (b := 278) _ (by omega), cpyF_s _ _ _ _ _ _ (by omega), SK.2.2.2.1] at ih
    simp (disch := omega) only [U_Mo_putBack (cm _), SA, SB, SG, SV, SK, leI, hk7, nI_add, pk_mul, nI_clamp, in_eq, m1, m2, m3, m4, u2, u3, u4, Nat.reduceLeDiff, true_implies, not_true_eq_false, not_false_eq_true, false_implies, and_true, true_and, ih]
theorem e_putBack (d k : Nat) (hk : k < 19) {h : MH} (hM : MoS h) (Q : RT) : callD (d + 1) 136 [.ref 273, .int (nI k)] h Q = Q none (sIA h 275 (cpyF (hia h 275) (hia h 278) 5 (1749 * k) 1749 0)) := by
  rw [E_Mo_putBack]
  simp only [U_Mo_putBack (cm _), SA, SB, SG, SV]
  exact l_putBack d k hk Q _ 1749 0 h hM rfl
theorem l_takeOut (d n i : Nat) (hn : n ≤ 460) (Q : RT) (lm : Nat × Nat) : ∀ (m k : Nat) (h : MH), MoS h → hia h 275 6 = nI n → k + m = 4 * n → WP cd_Mo_takeOut (callD d) Q lm 15 [] [some (.ref 273), some (.int (nI i)), some (.int (nI k))] h = Q none (sIA h 275 (shF (hia h 275) (154 + k) (154 + 4 * n) 4))
  | 0, k, h, hM, h6, hk => by
    obtain ⟨m1, m2, m3, m4⟩ := hM.row
    obtain rfl : k = 4 * n := by omega
    rw [U_Mo_takeOut_15 (cm _)]
    simp (disch := omega) only [U_Mo_takeOut (cm _), SA, SB, SG, SV, leI, pk_mul, nI_clamp, in_eq, m1, m2, m3, m4, h6, Nat.le_refl, true_implies, not_true_eq_false, false_implies, true_and, and_true, shF_n, sIA_id]
  | m + 1, k, h, hM, h6, hk => by
    obtain ⟨m1, m2, m3, m4⟩ := hM.row
    have hk7 : ¬ 4 * n ≤ k := by omega
    rw [U_Mo_takeOut_15 (cm _)]
    have ih := l_takeOut d n i hn Q lm m (k + 1) (sIA h 275 (up1 (hia h 275) (154 + k) (hia h 275 (154 + k + 4)))) hM (by rw [hia_s, up1_n _ _ (by omega)]; exact h6) (by omega)
    rw [hia_s, ← Nat.add_assoc, shF_s _ _ _ _ (by omega) (by omega), SK.2.2.2.1] at ih
    simp (disch := omega) only [U_Mo_takeOut (cm _), SA, SB, SG, SV, SK, leI, hk7, nI_add, pk_mul, nI_clamp, in_eq, m1, m2, m3, m4, h6, Nat.reduceLeDiff, true_implies, not_true_eq_false, not_false_eq_true, false_implies, and_true, true_and, ih]
def mOut (p : RW) (i : Nat) : RW := shF (up1 p 6 (nI (ql p - 1))) (154 + 4 * i) (154 + 4 * (ql p - 1)) 4
theorem e_takeOut (d n i : Nat) (hn : n ≤ 460) (hi : i < n) {h : MH} (hM : MoS h) (h6 : hia h 275 6 = nI n) (Q : RT) : callD (d + 1) 212 [.ref 273, .int (nI i)] h Q = Q none (sIA h 275 (mOut (hia h 275) i)) := by
  obtain ⟨m1, m2, m3, m4⟩ := hM.row
  have hl := l_takeOut d (n - 1) i (by omega) Q (hcc h, hcu h) (4 * (n - 1) - 4 * i) (4 * i) (sIA h 275 (up1 (hia h 275) 6 (nI (n - 1)))) hM (by rw [hia_s, up1_s]) (by omega)
  rw [hia_s] at hl
  rw [E_Mo_takeOut]
  unfold mOut
  rw [ql_of h6 (by omega)]
  simp (disch := omega) only [U_Mo_takeOut (cm _), SA, SB, SG, SV, SK, pk_mul, pk_sub, nI_clamp, in_eq, m1, m2, m3, m4, h6, Nat.reduceLeDiff, true_and, hl]
/-! ===== messages that are lost ===== -/
def mv4 (p : RW) (a b : Nat) : RW := itr (fun p k => up1 p (154 + 4 * a + k) (p (154 + 4 * b + k))) 0 4 p
abbrev isL (p : RW) (x y : Int32) (i : Nat) : Prop := (p (154 + 4 * i + 1) = x ∧ p (154 + 4 * i + 2) = y) ∨ (p (154 + 4 * i + 1) = y ∧ p (154 + 4 * i + 2) = x)
theorem l_lose4 (d n i a : Nat) (ha : a ≤ 460) (hi : i ≤ 460) (x y f t : Int32) (Q : RT) (lm : Nat × Nat) : ∀ (m k : Nat) (h : MH), MoS h → k + m = 4 → WP cd_Mo_lose (callD (d + 1)) Q lm 72 [] [some (.ref 273), some (.int x), some (.int y), some (.int (nI a)), some (.int (nI i)), some (.int f), some (.int t), some (.int (nI k))] h = WP cd_Mo_lose (callD (d + 1)) Q lm 109 [] [some (.ref 273), some (.int x), some (.int y), some (.int (nI a)), some (.int (nI i)), some (.int f), some (.int t), some (.int (nI 4))] (sIA h 275 (itr (fun p k => up1 p (154 + 4 * a + k) (p (154 + 4 * i + k))) k m (hia h 275)))
  | 0, k, h, hM, hk => by
    obtain rfl : k = 4 := by omega
    rw [itr_0, id_275, U_Mo_lose_72 (cm _)]
    simp (disch := omega) only [((U_Mo_lose (cm _) Q lm)), SA, SB, SG, SV, leI, Nat.le_refl, true_implies, not_true_eq_false, false_implies, and_true]
  | m + 1, k, h, hM, hk => by
    obtain ⟨m1, m2, m3, m4⟩ := hM.row
    have hk7 : ¬ 4 ≤ k := by omega
    have ih := l_lose4 d n i a ha hi x y f t Q lm m (k + 1) (sIA h 275 (up1 (hia h 275) (154 + 4 * a + k) (hia h 275 (154 + 4 * i + k)))) hM (by omega)
    rw [hia_s, SK.2.2.2.1] at ih
    rw [U_Mo_lose_72 (cm _)]
    simp (disch := omega) only [itr_s, ih, U_Mo_lose (cm _), SA, SB, SC1, SC2, SG, SV, SK, leI, hk7, e_messageAt, nI_add, pk_mul, nI_clamp, in_eq, m1, m2, m3, m4, Nat.reduceLeDiff, true_implies, not_true_eq_false, not_false_eq_true, false_implies, and_true, true_and]
def losG (x y : Int32) (q : RW × Nat) (i : Nat) : RW × Nat := if isL q.1 x y i then q else (mv4 q.1 q.2 i, q.2 + 1)
theorem mv4_lo {p : RW} {a b j : Nat} (h : j < 154) : mv4 p a b j = p j := by
  unfold mv4
  simp only [itr_s, itr_0]
  rw [up1_n _ _ (by omega), up1_n _ _ (by omega), up1_n _ _ (by omega), up1_n _ _ (by omega)]
theorem l_lose (d n : Nat) (hn : n ≤ 450) (x y : Int32) (Q : RT) (lm : Nat × Nat) : ∀ (m i a : Nat) (w1 w2 w3 : Option Value) (h : MH), MoS h → hia h 275 6 = nI n → i + m = n → a ≤ i → WP cd_Mo_lose (callD (d + 1)) Q lm 5 [] [some (.ref 273), some (.int x), some (.int y), some (.int (nI a)), some (.int (nI i)), w1, w2, w3] h = Q none (sIA h 275 (up1 (itr (losG x y) i m (hia h 275, a)).1 6 (nI (itr (losG x y) i m (hia h 275, a)).2)))
  | 0, i, a, w1, w2, w3, h, hM, h6, hi, ha => by
    obtain ⟨m1, m2, m3, m4⟩ := hM.row
    obtain rfl : i = n := by omega
    rw [itr_0, U_Mo_lose_5 (cm _)]
    simp (disch := omega) only [U_Mo_lose (cm _), SA, SB, SG, SV, leI, nI_clamp, in_eq, m1, m2, m3, m4, h6, Nat.le_refl, Nat.reduceLeDiff, true_implies, not_true_eq_false, false_implies, true_and, and_true]
  | m + 1, i, a, w1, w2, w3, h, hM, h6, hi, ha => by
    obtain ⟨m1, m2, m3, m4⟩ := hM.row
    have hk7 : ¬ n ≤ i := by omega
    rw [itr_s, U_Mo_lose_5 (cm _)]
    have ihL := fun w1 w2 w3 => l_lose d n hn x y Q lm m (i + 1) a w1 w2 w3 h hM h6 (by omega) (by omega)
    have ihK := fun w1 w2 w3 => l_lose d n hn x y Q lm m (i + 1) (a + 1) w1 w2 w3 (sIA h 275 (mv4 (hia h 275) a i)) hM (by rw [hia_s, mv4_lo (by omega)]; exact h6) (by omega) (by omega)
    have h4 := fun f t => l_lose4 d n i a (by omega) (by omega) x y f t Q lm 4 0 h hM rfl
    simp only [hia_s, SK] at ihK
    by_cases c : isL (hia h 275) x y i
    · have e : losG x y (hia h 275, a) i = (hia h 275, a) := if_pos c
      rw [e]
      by_cases c1 : hia h 275 (154 + 4 * i + 1) = x ∧ hia h 275 (154 + 4 * i + 2) = y
      · simp (disch := omega) only [U_Mo_lose (cm _), SA, SB, SC1, SC2, SG, SV, SK, leI, hk7, h6, e_messageAt, nI_add, pk_mul, nI_clamp, in_eq, m1, m2, m3, m4, c1.1, c1.2, Nat.reduceLeDiff, true_implies, not_true_eq_false, not_false_eq_true, false_implies, and_true, true_and, ihL]
      · rcases c with c | c
        · exact absurd c c1
        · by_cases c3 : hia h 275 (154 + 4 * i + 1) = x
          · have c4 : ¬ hia h 275 (154 + 4 * i + 2) = y := fun q => c1 ⟨c3, q⟩
            simp (disch := omega) only [U_Mo_lose (cm _), SA, SB, SC1, SC2, SG, SV, SK, leI, hk7, h6, e_messageAt, nI_add, pk_mul, nI_clamp, in_eq, m1, m2, m3, m4, c3, c4, Nat.reduceLeDiff, true_implies, not_true_eq_false, not_false_eq_true, false_implies, and_true, true_and, ihL, show x = y from c3.symm.trans c.1, c.2]
            simp only [show hia h 275 (154 + 4 * i + 2) = x from c.2, show x = y from c3.symm.trans c.1, true_implies, not_true_eq_false, not_false_eq_true, false_implies, and_true, true_and, ihL] at c4 ⊢
          · simp (disch := omega) only [U_Mo_lose (cm _), SA, SB, SC1, SC2, SG, SV, SK, leI, hk7, h6, e_messageAt, nI_add, pk_mul, nI_clamp, in_eq, m1, m2, m3, m4, c.1, c.2, Nat.reduceLeDiff, true_implies, not_true_eq_false, not_false_eq_true, false_implies, and_true, true_and, ihL]
            rw [c.1] at c3
            simp only [c3, true_implies, not_true_eq_false, not_false_eq_true, false_implies, and_true, true_and, ihL]
    · have e : losG x y (hia h 275, a) i = (mv4 (hia h 275) a i, a + 1) := if_neg c
      rw [e]
      have c1 : ¬ (hia h 275 (154 + 4 * i + 1) = x ∧ hia h 275 (154 + 4 * i + 2) = y) := fun q => c (Or.inl q)
      have c2 : ¬ (hia h 275 (154 + 4 * i + 1) = y ∧ hia h 275 (154 + 4 * i + 2) = x) := fun q => c (Or.inr q)
      have main : WP cd_Mo_lose (callD (d + 1)) Q lm 69 [] [some (.ref 273), some (.int x), some (.int y), some (.int (nI a)), some (.int (nI i)), some (.int (hia h 275 (154 + 4 * i + 1))), some (.int (hia h 275 (154 + 4 * i + 2))), w3] h = Q none (sIA h 275 (up1 (itr (losG x y) (i + 1) m (mv4 (hia h 275) a i, a + 1)).1 6 (nI (itr (losG x y) (i + 1) m (mv4 (hia h 275) a i, a + 1)).2))) := by
        simp (disch := omega) only [↓h4, U_Mo_lose (cm _), SA, SB, SG, SV, SK, nI_add]
        exact ihK _ _ _
      by_cases c3 : hia h 275 (154 + 4 * i + 1) = x
      · have c4 : ¬ hia h 275 (154 + 4 * i + 2) = y := fun q => c1 ⟨c3, q⟩
        by_cases c5 : hia h 275 (154 + 4 * i + 1) = y
        · have c6 : ¬ hia h 275 (154 + 4 * i + 2) = x := fun q => c2 ⟨c5, q⟩
          simp (disch := omega) only [↓main, U_Mo_lose (cm _), SA, SB, SC1, SC2, SG, SV, SK, leI, hk7, h6, e_messageAt, nI_add, pk_mul, nI_clamp, in_eq, m1, m2, m3, m4, eq_true c3, eq_true c5, c4, c6, Nat.reduceLeDiff, true_implies, not_true_eq_false, not_false_eq_true, false_implies, and_true, true_and]
        · simp (disch := omega) only [↓main, U_Mo_lose (cm _), SA, SB, SC1, SC2, SG, SV, SK, leI, hk7, h6, e_messageAt, nI_add, pk_mul, nI_clamp, in_eq, m1, m2, m3, m4, eq_true c3, c5, c4, Nat.reduceLeDiff, true_implies, not_true_eq_false, not_false_eq_true, false_implies, and_true, true_and]
      · by_cases c5 : hia h 275 (154 + 4 * i + 1) = y
        · have c6 : ¬ hia h 275 (154 + 4 * i + 2) = x := fun q => c2 ⟨c5, q⟩
          simp (disch := omega) only [↓main, U_Mo_lose (cm _), SA, SB, SC1, SC2, SG, SV, SK, leI, hk7, h6, e_messageAt, nI_add, pk_mul, nI_clamp, in_eq, m1, m2, m3, m4, c3, eq_true c5, c6, Nat.reduceLeDiff, true_implies, not_true_eq_false, not_false_eq_true, false_implies, and_true, true_and]
        · simp (disch := omega) only [↓main, U_Mo_lose (cm _), SA, SB, SC1, SC2, SG, SV, SK, leI, hk7, h6, e_messageAt, nI_add, pk_mul, nI_clamp, in_eq, m1, m2, m3, m4, c3, c5, Nat.reduceLeDiff, true_implies, not_true_eq_false, not_false_eq_true, false_implies, and_true, true_and]
def mLose (p : RW) (x y : Int32) : RW := up1 (itr (losG x y) 0 (ql p) (p, 0)).1 6 (nI (itr (losG x y) 0 (ql p) (p, 0)).2)
theorem e_lose (d : Nat) (x y : Int32) {h : MH} (hM : MoS h) (hQ : QL (hia h 275) 450) (Q : RT) : callD (d + 2) 207 [.ref 273, .int x, .int y] h Q = Q none (sIA h 275 (mLose (hia h 275) x y)) := by
  rw [E_Mo_lose]
  simp only [U_Mo_lose (cm _), SA, SB, SG, SV]
  exact l_lose d (ql (hia h 275)) hQ.2 x y Q _ (ql (hia h 275)) 0 0 _ _ _ h hM hQ.1 (by omega) (by omega)
