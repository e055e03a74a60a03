/-! ===== the reference asks of a token ===== -/
theorem ev_inj : ∀ (l1 l2 : List Nat), (∀ x, x ∈ l1 → 97 ≤ x ∧ x ≤ 122) → (∀ x, x ∈ l2 → 97 ≤ x ∧ x ≤ 122) → ev l1 = ev l2 → l1 = l2
  | [], [], _, _, _ => rfl
  | [], y :: r, _, h2, e => by
    have := h2 y (List.mem_cons_self ..)
    have e' : 0 = ev r * 32 + (y - 96) := e
    omega
  | x :: r, [], h1, _, e => by
    have := h1 x (List.mem_cons_self ..)
    have e' : ev r * 32 + (x - 96) = 0 := e
    omega
  | x :: r, y :: s, h1, h2, e => by
    have a := h1 x (List.mem_cons_self ..)
    have b := h2 y (List.mem_cons_self ..)
    have e' : ev r * 32 + (x - 96) = ev s * 32 + (y - 96) := e
    have e1 : x = y := by omega
    have e2 : ev r = ev s := by omega
    rw [e1, ev_inj r s (fun z hz => h1 z (List.mem_cons_of_mem _ hz)) (fun z hz => h2 z (List.mem_cons_of_mem _ hz)) e2]
theorem rl_mem {c : Nat → Nat} {a : Nat} : ∀ k x, x ∈ rl c a k → ∃ i, i < k ∧ x = c (a + i)
  | 0, x, h => by cases h
  | k + 1, x, h => by
    rcases List.mem_cons.mp h with rfl | h
    · exact ⟨k, by omega, rfl⟩
    · obtain ⟨i, i1, i2⟩ := rl_mem k x h
      exact ⟨i, by omega, i2⟩
theorem wds_let : ∀ k, k < 22 → (∀ x, x ∈ (wds k).reverse → 97 ≤ x ∧ x ≤ 122) ∧ ev (wds k).reverse < 2 ^ 50 ∧ (wds k).length ≤ 10 := by decide +kernel
theorem word_let {T : TP} {q : Nat} (h : tTy T q = 1) : ∀ i, i < tBe T q - tAt T q → 97 ≤ T.1 (tAt T q + i) ∧ T.1 (tAt T q + i) ≤ 122 := fun i hi => by
  have e : tBe T q = skp cL T.1 (T.2 - tAt T q) (tAt T q) := by unfold tBe; rw [if_pos h]
  have := skp_all cL T.1 (T.2 - tAt T q) (tAt T q) (tAt T q + i) (by omega) (by rw [← e]; omega)
  unfold cL at this
  simpa using this
theorem wth_word {T : TP} {q k : Nat} (hk : k < 22) (h : tTy T q = 1) : wth T q = lN (ev (wds k).reverse) ↔ bW T q k = true := by
  obtain ⟨w1, w2, w3⟩ := wds_let k hk
  have wl := word_let h
  rw [bW_t]
  unfold IsW wth wwv
  rw [if_pos h]
  by_cases c : tBe T q - tAt T q ≤ 10
  · rw [if_pos c]
    have lt := ev_lt (c := T.1) (a := tAt T q) (tBe T q - tAt T q) wl
    have p10 : 32 ^ (tBe T q - tAt T q) ≤ 32 ^ 10 := Nat.pow_le_pow_right (by omega) c
    have e10 : (32 : Nat) ^ 10 = 2 ^ 50 := by decide
    rw [lN_inj (by omega) (by omega)]
    refine ⟨fun e => ⟨h, ev_inj _ _ (fun x hx => ?_) w1 e⟩, fun e => by rw [e.2]⟩
    obtain ⟨i, i1, rfl⟩ := rl_mem _ x hx
    exact wl i i1
  · rw [if_neg c]
    constructor
    · intro e
      exfalso
      have t1 : (-1 : Int64).toInt = -1 := by decide
      have t2 := lN_t (a := ev (wds k).reverse) (by omega)
      rw [← e, t1] at t2
      omega
    · intro e
      have := congrArg List.length e.2
      rw [rl_len, List.length_reverse] at this
      omega
/-- the reference's tape stands at the token behind q -/
def MTk (h : MH) (T : TP) (q : Nat) : Prop := MaS h ∧ TB (hia h 282) T ∧ q ≤ T.2 ∧ hfi h 273 13 = nI T.2 ∧ hfi h 273 14 = nI (tAt T q) ∧ hfi h 273 15 = nI (tBe T q) ∧ hfi h 273 16 = nI (tTy T q) ∧ hfj h 273 17 = wth T q
theorem m_isWord (d q k : Nat) (hk : k < 22) {h : MH} {T : TP} (t : MTk h T q) (Q : RT) : callD (d + 1) 167 [.ref 273, .long (lN (ev (wds k).reverse))] h Q = Q (some (.int (b2 (bW T q k)))) h := by
  obtain ⟨s, hb, hq, h13, h14, h15, h16, h17⟩ := t
  unfold MaS at s
  have t3 := tTy_le T q
  rw [E_Mo_isWord]
  by_cases c : tTy T q = 1
  · by_cases c2 : wth T q = lN (ev (wds k).reverse)
    · have e : bW T q k = true := (wth_word hk c).mp c2
      rw [e, b2_t]
      simp (disch := omega) only [↓SL, LC, U_Mo_isWord (cm _), SA, SB, SG, SV, s, h16, h17, c, c2, eqI, true_or, or_true, true_implies, not_true_eq_false, not_false_eq_true, false_implies, true_and, and_true]
    · have e : bW T q k = false := Bool.eq_false_iff.mpr (fun z => c2 ((wth_word hk c).mpr z))
      rw [e, b2_f]
      simp (disch := omega) only [↓SL, LC, U_Mo_isWord (cm _), SA, SB, SG, SV, s, h16, h17, c, c2, eqI, true_or, or_true, true_implies, not_true_eq_false, not_false_eq_true, false_implies, true_and, and_true]
  · have e : bW T q k = false := Bool.eq_false_iff.mpr (fun z => c (bW_t.mp z).1)
    rw [e, b2_f]
    simp (disch := omega) only [↓SL, LC, U_Mo_isWord (cm _), SA, SB, SG, SV, s, h16, c, eqI, true_or, or_true, true_implies, not_true_eq_false, not_false_eq_true, false_implies, true_and, and_true]
theorem m_isSign (d q x : Nat) (hx : x < 256) {h : MH} {T : TP} (t : MTk h T q) (Q : RT) : callD (d + 1) 168 [.ref 273, .int (nI x)] h Q = Q (some (.int (b2 (bG T q x)))) h := by
  obtain ⟨s, hb, hq, h13, h14, h15, h16, h17⟩ := t
  unfold MaS at s
  have n4 := hb.1
  have t3 := tTy_le T q
  rw [E_Mo_isSign]
  by_cases c : tTy T q = 3
  · have hN : tAt T q < T.2 := by
      unfold tTy at c
      split at c
      · assumption
      · omega
    obtain ⟨-, b2'⟩ := hb.2 _ hN
    have ew : wth T q = lN (T.1 (tAt T q)) := by unfold wth; rw [if_neg (by omega), if_neg (by omega), if_pos c]
    have ei := lN_inj (a := T.1 (tAt T q)) (b := x) (by omega) (by omega)
    by_cases c2 : T.1 (tAt T q) = x
    · have e : bG T q x = true := bG_t.mpr ⟨c, c2⟩
      rw [e, b2_t]
      simp (disch := omega) only [↓SL, LC, U_Mo_isSign (cm _), SA, SB, SG, SV, s, h16, h17, ew, c, ei, c2, nI_l, eqI, true_or, or_true, true_implies, not_true_eq_false, not_false_eq_true, false_implies, true_and, and_true]
    · have e : bG T q x = false := Bool.eq_false_iff.mpr (fun z => c2 (bG_t.mp z).2)
      rw [e, b2_f]
      simp (disch := omega) only [↓SL, LC, U_Mo_isSign (cm _), SA, SB, SG, SV, s, h16, h17, ew, c, ei, c2, nI_l, eqI, true_or, or_true, true_implies, not_true_eq_false, not_false_eq_true, false_implies, true_and, and_true]
  · have e : bG T q x = false := Bool.eq_false_iff.mpr (fun z => c (bG_t.mp z).1)
    rw [e, b2_f]
    simp (disch := omega) only [↓SL, LC, U_Mo_isSign (cm _), SA, SB, SG, SV, s, h16, c, eqI, true_or, or_true, true_implies, not_true_eq_false, not_false_eq_true, false_implies, true_and, and_true]
theorem dm_dv (c : Nat → Nat) (a : Nat) : ∀ k, (dv c a k ≤ 1000000 → dmv c a k = dv c a k) ∧ (1000000 < dv c a k → 1000000 < dmv c a k)
  | 0 => ⟨fun _ => rfl, fun h => by have : dv c a 0 = 0 := rfl; omega⟩
  | k + 1 => by
    have ih := dm_dv c a k
    have e1 : dv c a (k + 1) = dv c a k * 10 + (c (a + k) - 48) := rfl
    have e2 : dmv c a (k + 1) = if 1000000 < dmv c a k then dmv c a k else dmv c a k * 10 + (c (a + k) - 48) := rfl
    rw [e1, e2]
    by_cases h : dv c a k ≤ 1000000
    · rw [ih.1 h, if_neg (by omega)]
      exact ⟨fun _ => rfl, fun z => z⟩
    · have := ih.2 (by omega)
      rw [if_pos this]
      exact ⟨fun z => by omega, fun _ => this⟩
theorem wth_num {T : TP} {q : Nat} (h : tTy T q = 2) : wth T q = lN (dmv T.1 (tAt T q) (tBe T q - tAt T q)) ∧ dmv T.1 (tAt T q) (tBe T q - tAt T q) ≤ 10000009 ∧ (∀ lo hi, hi ≤ 1000 → ((lo ≤ dmv T.1 (tAt T q) (tBe T q - tAt T q) ∧ dmv T.1 (tAt T q) (tBe T q - tAt T q) ≤ hi) ↔ bN T q lo hi = true)) ∧ (nmV T q ≤ 1000 → dmv T.1 (tAt T q) (tBe T q - tAt T q) = nmV T q) := by
  obtain ⟨d1, d2⟩ := dm_dv T.1 (tAt T q) (tBe T q - tAt T q)
  have ev' : nmV T q = dv T.1 (tAt T q) (tBe T q - tAt T q) := rfl
  rw [← ev'] at d1 d2
  have e : tBe T q = skp cD T.1 (T.2 - tAt T q) (tAt T q) := by unfold tBe; rw [if_neg (by omega), if_pos h]
  refine ⟨by unfold wth; rw [if_neg (by omega), if_pos h], dmv_le _ _ _ (fun i hi => ?_), fun lo hi hh => ?_, fun z => d1 (by omega)⟩
  · have := skp_all cD T.1 (T.2 - tAt T q) (tAt T q) (tAt T q + i) (by omega) (by rw [← e]; omega)
    unfold cD at this
    simpa using this
  · rw [bN_t]
    unfold IsN
    constructor
    · intro z
      have : nmV T q ≤ 1000000 := by
        by_cases c : nmV T q ≤ 1000000
        · exact c
        · have := d2 (by omega); omega
      rw [d1 this] at z
      exact ⟨h, z⟩
    · intro z
      rw [d1 (by omega)]
      exact z.2
