/-! ===== words, signs, numbers ===== -/
def wds : Nat → List Nat := fun k => ([[108, 105, 110, 107], [115, 116, 101, 112], [99, 117, 116], [114, 97, 110, 107, 115], [98, 97, 114, 115], [116, 111], [97, 115], [110, 111, 116], [116, 105, 109, 101], [119, 97, 105, 116, 115], [100, 111, 110, 101], [108, 97, 116, 101, 115, 116], [100, 105, 115, 116, 97, 110, 99, 101], [97, 99, 116, 105, 118, 101], [107, 105, 110, 100], [102, 114, 111, 109], [102, 97, 114], [109, 111, 111, 100], [111, 114], [97, 110, 100], [116, 105, 109, 101, 115], [105, 102]] : List (List Nat)).getD k []
theorem wds_sbt : ∀ k, k < 22 → (sbt k).length = (wds k).length ∧ (wds k).length ≤ 8 ∧ ∀ i, i < (wds k).length → (sbt k).getD i 0 = nI ((wds k).getD i 0) ∧ (wds k).getD i 0 < 256 := by decide +kernel
/-- the letters from a on, the last first -/
def rl (c : Nat → Nat) (a : Nat) : Nat → List Nat
  | 0 => []
  | k + 1 => c (a + k) :: rl c a k
theorem rl_len (c : Nat → Nat) (a : Nat) : ∀ k, (rl c a k).length = k
  | 0 => rfl
  | k + 1 => by rw [show rl c a (k + 1) = c (a + k) :: rl c a k from rfl, List.length_cons, rl_len c a k]
theorem rl_eq (c : Nat → Nat) (a : Nat) (w : List Nat) : ∀ k, k ≤ w.length → (rl c a k = (w.take k).reverse ↔ ∀ i, i < k → c (a + i) = w.getD i 0)
  | 0, _ => ⟨fun _ i hi => by omega, fun _ => rfl⟩
  | k + 1, hk => by
    have ih := rl_eq c a w k (by omega)
    have e : (w.take (k + 1)).reverse = w.getD k 0 :: (w.take k).reverse := by
      rw [List.take_succ_eq_append_getElem (by omega), List.reverse_append]
      simp [List.getD, List.getElem?_eq_getElem (show k < w.length by omega)]
    rw [e, show rl c a (k + 1) = c (a + k) :: rl c a k from rfl, List.cons.injEq, ih]
    constructor
    · rintro ⟨h1, h2⟩ i hi
      by_cases z : i = k
      · subst z; exact h1
      · exact h2 i (by omega)
    · intro h
      exact ⟨h k (by omega), fun i hi => h i (by omega)⟩
def IsW (T : TP) (q k : Nat) : Prop := tTy T q = 1 ∧ rl T.1 (tAt T q) (tBe T q - tAt T q) = (wds k).reverse
def IsG (T : TP) (q x : Nat) : Prop := tTy T q = 3 ∧ T.1 (tAt T q) = x
def IsN (T : TP) (q lo hi : Nat) : Prop := tTy T q = 2 ∧ lo ≤ nmV T q ∧ nmV T q ≤ hi
theorem IsW_iff (T : TP) (q k : Nat) : IsW T q k ↔ tTy T q = 1 ∧ tBe T q - tAt T q = (wds k).length ∧ ∀ i, i < (wds k).length → T.1 (tAt T q + i) = (wds k).getD i 0 := by
  unfold IsW
  refine and_congr_right (fun _ => ⟨fun h => ?_, fun h => ?_⟩)
  · have hl := congrArg List.length h
    rw [rl_len, List.length_reverse] at hl
    refine ⟨hl, ?_⟩
    have := rl_eq T.1 (tAt T q) (wds k) (wds k).length (Nat.le_refl _)
    rw [List.take_length] at this
    rw [hl] at h
    exact this.mp h
  · rw [h.1]
    have := rl_eq T.1 (tAt T q) (wds k) (wds k).length (Nat.le_refl _)
    rw [List.take_length] at this
    exact this.mpr h.2
section Dec
variable (T : TP) (q k : Nat)
def dW : Decidable (IsW T q k) := by unfold IsW; exact inferInstance
def dG : Decidable (IsG T q k) := by unfold IsG; exact inferInstance
def dN (hi : Nat) : Decidable (IsN T q k hi) := by unfold IsN; exact inferInstance
end Dec
/-- asked as numbers -/
def bW (T : TP) (q k : Nat) : Bool := @decide (IsW T q k) (dW T q k)
def bG (T : TP) (q x : Nat) : Bool := @decide (IsG T q x) (dG T q x)
def bN (T : TP) (q lo hi : Nat) : Bool := @decide (IsN T q lo hi) (dN T q lo hi)
theorem bW_t {T : TP} {q k : Nat} : bW T q k = true ↔ IsW T q k := by unfold bW; exact @decide_eq_true_iff _ (dW T q k)
theorem bG_t {T : TP} {q k : Nat} : bG T q k = true ↔ IsG T q k := by unfold bG; exact @decide_eq_true_iff _ (dG T q k)
theorem bN_t {T : TP} {q lo hi : Nat} : bN T q lo hi = true ↔ IsN T q lo hi := by unfold bN; exact @decide_eq_true_iff _ (dN T q lo hi)
/-- the program's tape stands at the token behind q -/
def XTk (h : MH) (T : TP) (q : Nat) : Prop := TaS h ∧ TB (hia h 215) T ∧ q ≤ T.2 ∧ hfi h 214 1 = nI T.2 ∧ hfi h 214 2 = nI (tAt T q) ∧ hfi h 214 3 = nI (tBe T q) ∧ hfi h 214 4 = nI (tTy T q) ∧ hfi h 214 5 = nI (nmX T q)
theorem tTy_le (T : TP) (q : Nat) : tTy T q ≤ 3 := by
  unfold tTy
  split
  · split
    · omega
    · split <;> omega
  · omega
def b2 (b : Bool) : Int32 := if b = true then nI 1 else nI 0
theorem b2_t : b2 true = nI 1 := rfl
theorem b2_f : b2 false = nI 0 := rfl
theorem x_hasSign (d q x : Nat) (hx : x < 256) {h : MH} {T : TP} (k : XTk h T q) (Q : RT) : callD (d + 1) 71 [.ref 214, .int (nI x)] h Q = Q (some (.int (b2 (bG T q x)))) h := by
  obtain ⟨s, hb, hq, h1, h2, h3, h4, h5⟩ := k
  unfold TaS at s
  have n4 := hb.1
  have t3 := tTy_le T q
  have hA := tAt_N T hq
  rw [E_Ta_hasSign]
  by_cases c : tTy T q = 3
  · have hN : tAt T q < T.2 := by
      unfold tTy at c
      split at c
      · assumption
      · omega
    obtain ⟨b1, b2'⟩ := hb.2 _ hN
    by_cases c2 : T.1 (tAt T q) = x
    · have e : bG T q x = true := bG_t.mpr ⟨c, c2⟩
      rw [e, b2_t]
      simp (disch := omega) only [U_Ta_hasSign (cm _), SA, SB, SG, SV, s, h2, h4, c, b1, c2, eqI, nI_clamp, in_eq, true_or, or_true, true_implies, not_true_eq_false, not_false_eq_true, false_implies, true_and, and_true]
    · have e : bG T q x = false := Bool.eq_false_iff.mpr (fun z => c2 (bG_t.mp z).2)
      rw [e, b2_f]
      simp (disch := omega) only [U_Ta_hasSign (cm _), SA, SB, SG, SV, s, h2, h4, c, b1, c2, eqI, nI_clamp, in_eq, true_or, or_true, true_implies, not_true_eq_false, not_false_eq_true, false_implies, true_and, and_true]
  · have e : bG T q x = false := Bool.eq_false_iff.mpr (fun z => c (bG_t.mp z).1)
    rw [e, b2_f]
    simp (disch := omega) only [U_Ta_hasSign (cm _), SA, SB, SG, SV, s, h2, h4, c, eqI, nI_clamp, in_eq, true_or, or_true, true_implies, not_true_eq_false, not_false_eq_true, false_implies, true_and, and_true]
theorem x_hasNumber (d q lo hi : Nat) (hh : hi ≤ 1000) (hl : lo ≤ 1000) {h : MH} {T : TP} (k : XTk h T q) (Q : RT) : callD (d + 1) 72 [.ref 214, .int (nI lo), .int (nI hi)] h Q = Q (some (.int (b2 (bN T q lo hi)))) h := by
  obtain ⟨s, hb, hq, h1, h2, h3, h4, h5⟩ := k
  unfold TaS at s
  have t3 := tTy_le T q
  rw [E_Ta_hasNumber]
  by_cases c : tTy T q = 2
  · have e5 : nmX T q = dvx T.1 (tAt T q) (tBe T q - tAt T q) := by unfold nmX; rw [if_pos c]
    obtain ⟨d1, d2⟩ := dvx_dv T.1 (tAt T q) (tBe T q - tAt T q)
    have ev : nmV T q = dv T.1 (tAt T q) (tBe T q - tAt T q) := rfl
    have hx : nmX T q ≤ 10000 := by rw [e5]; exact dvx_le _ _ _
    rw [← ev, ← e5] at d1 d2
    by_cases c1 : nmX T q < lo
    · have e : bN T q lo hi = false := Bool.eq_false_iff.mpr (fun z => by have := bN_t.mp z; unfold IsN at this; omega)
      rw [e, b2_f]
      simp (disch := omega) only [U_Ta_hasNumber (cm _), SA, SB, SG, SV, s, h4, h5, c, c1, ltI, eqI, true_or, or_true, true_implies, not_true_eq_false, not_false_eq_true, false_implies, true_and, and_true]
    · by_cases c2 : hi < nmX T q
      · have e : bN T q lo hi = false := Bool.eq_false_iff.mpr (fun z => by have := bN_t.mp z; unfold IsN at this; omega)
        rw [e, b2_f]
        simp (disch := omega) only [U_Ta_hasNumber (cm _), SA, SB, SG, SV, s, h4, h5, c, c1, c2, ltI, eqI, true_or, or_true, true_implies, not_true_eq_false, not_false_eq_true, false_implies, true_and, and_true]
      · have e : bN T q lo hi = true := bN_t.mpr ⟨c, by omega, by omega⟩
        rw [e, b2_t]
        simp (disch := omega) only [U_Ta_hasNumber (cm _), SA, SB, SG, SV, s, h4, h5, c, c1, c2, ltI, eqI, true_or, or_true, true_implies, not_true_eq_false, not_false_eq_true, false_implies, true_and, and_true]
  · have e : bN T q lo hi = false := Bool.eq_false_iff.mpr (fun z => c (bN_t.mp z).1)
    rw [e, b2_f]
    simp (disch := omega) only [U_Ta_hasNumber (cm _), SA, SB, SG, SV, s, h4, c, eqI, true_or, or_true, true_implies, not_true_eq_false, not_false_eq_true, false_implies, true_and, and_true]
theorem nm_of {T : TP} {q lo hi : Nat} (hh : hi ≤ 1000) (h : bN T q lo hi = true) : nmX T q = nmV T q ∧ lo ≤ nmV T q ∧ nmV T q ≤ hi := by
  obtain ⟨c, h1, h2⟩ := bN_t.mp h
  obtain ⟨d1, d2⟩ := dvx_dv T.1 (tAt T q) (tBe T q - tAt T q)
  have e5 : nmX T q = dvx T.1 (tAt T q) (tBe T q - tAt T q) := by unfold nmX; rw [if_pos c]
  have ev : nmV T q = dv T.1 (tAt T q) (tBe T q - tAt T q) := rfl
  rw [← ev, ← e5] at d1
  exact ⟨d1 (by omega), h1, h2⟩
theorem x_l_word (d q k : Nat) (hk : k < 22) {h : MH} {T : TP} (t : XTk h T q) (hl : tBe T q - tAt T q = (wds k).length) (hty : tTy T q = 1) (Q : RT) (lm : Nat × Nat) : ∀ (m i : Nat), i + m = (wds k).length → (∀ j, j < i → T.1 (tAt T q + j) = (wds k).getD j 0) → WP cd_Ta_hasWord (callD d) Q lm 28 [] [some (.ref 214), some (.ref (k + 2)), some (.int (nI i))] h = Q (some (.int (b2 (bW T q k)))) h
  | 0, i, hi, hj => by
    obtain ⟨w1, w2, w3⟩ := wds_sbt k hk
    have e : bW T q k = true := bW_t.mpr ((IsW_iff T q k).mpr ⟨hty, hl, fun j hj' => hj j (by omega)⟩)
    rw [e, b2_t, U_Ta_hasWord_28 (cm _)]
    simp (disch := omega) only [U_Ta_hasWord (cm _), SA, SB, SG, SV, Nat.add_sub_cancel, w1, leI, show (wds k).length ≤ i by omega, show 2 ≤ k + 2 by omega, show k + 2 < 24 by omega, List.length_nil, List.length_cons, Nat.zero_le, Nat.reduceLeDiff, true_or, or_true, true_implies, not_true_eq_false, not_false_eq_true, false_implies, true_and, and_true]
  | m + 1, i, hi, hj => by
    have t' := t
    obtain ⟨s, hb, hq, h1, h2, h3, h4, h5⟩ := t
    unfold TaS at s
    have n4 := hb.1
    obtain ⟨w1, w2, w3⟩ := wds_sbt k hk
    have hB := tBe_N T hq
    have hle := tBe_le T q
    obtain ⟨b1, b2'⟩ := hb.2 (tAt T q + i) (by omega)
    obtain ⟨v1, v2⟩ := w3 i (by omega)
    rw [U_Ta_hasWord_28 (cm _)]
    by_cases c : T.1 (tAt T q + i) = (wds k).getD i 0
    · have ih := x_l_word d q k hk t' hl hty Q lm m (i + 1) (by omega) (fun j hj' => by
        by_cases z : j = i
        · subst z; exact c
        · exact hj j (by omega))
      rw [← ih]
      simp (disch := omega) only [U_Ta_hasWord (cm _), SA, SB, SG, SV, Nat.add_sub_cancel, s, h2, b1, c, v1, w1, leI, show ¬ (wds k).length ≤ i by omega, show 2 ≤ k + 2 by omega, show k + 2 < 24 by omega, nI_add, nI_clamp, in_eq, List.length_nil, List.length_cons, Nat.zero_le, Nat.reduceLeDiff, Nat.reduceAdd, true_or, or_true, true_implies, not_true_eq_false, not_false_eq_true, false_implies, true_and, and_true]
    · have e : bW T q k = false := Bool.eq_false_iff.mpr (fun z => c (((IsW_iff T q k).mp (bW_t.mp z)).2.2 i (by omega)))
      rw [e, b2_f]
      simp (disch := omega) only [U_Ta_hasWord (cm _), SA, SB, SG, SV, Nat.add_sub_cancel, s, h2, b1, eqI, c, v1, w1, leI, show ¬ (wds k).length ≤ i by omega, show 2 ≤ k + 2 by omega, show k + 2 < 24 by omega, nI_add, nI_clamp, in_eq, List.length_nil, List.length_cons, Nat.zero_le, Nat.reduceLeDiff, Nat.reduceAdd, true_or, or_true, true_implies, not_true_eq_false, not_false_eq_true, false_implies, true_and, and_true]
theorem x_hasWord (d q k : Nat) (hk : k < 22) {h : MH} {T : TP} (t : XTk h T q) (Q : RT) : callD (d + 1) 70 [.ref 214, .ref (k + 2)] h Q = Q (some (.int (b2 (bW T q k)))) h := by
  have t' := t
  obtain ⟨s, hb, hq, h1, h2, h3, h4, h5⟩ := t
  unfold TaS at s
  have n4 := hb.1
  have t3 := tTy_le T q
  have hB := tBe_N T hq
  have hle := tBe_le T q
  obtain ⟨w1, w2, w3⟩ := wds_sbt k hk
  rw [E_Ta_hasWord]
  by_cases c : tTy T q = 1
  · by_cases c2 : tBe T q - tAt T q = (wds k).length
    · have L := x_l_word d q k hk t' c2 c Q (hcc h, hcu h) (wds k).length 0 (by omega) (fun j hj => by omega)
      rw [← L]
      simp (disch := omega) only [U_Ta_hasWord (cm _), SA, SB, SG, SV, Nat.add_sub_cancel, s, h2, h3, h4, c, c2, w1, eqI, pk_sub, show 2 ≤ k + 2 by omega, show k + 2 < 24 by omega, List.length_nil, List.length_cons, Nat.zero_le, Nat.reduceLeDiff, Nat.reduceAdd, true_or, or_true, true_implies, not_true_eq_false, not_false_eq_true, false_implies, true_and, and_true]
    · have e : bW T q k = false := Bool.eq_false_iff.mpr (fun z => c2 ((IsW_iff T q k).mp (bW_t.mp z)).2.1)
      rw [e, b2_f]
      simp (disch := omega) only [U_Ta_hasWord (cm _), SA, SB, SG, SV, Nat.add_sub_cancel, s, h2, h3, h4, c, c2, w1, eqI, pk_sub, show 2 ≤ k + 2 by omega, show k + 2 < 24 by omega, List.length_nil, List.length_cons, Nat.zero_le, Nat.reduceLeDiff, Nat.reduceAdd, true_or, or_true, true_implies, not_true_eq_false, not_false_eq_true, false_implies, true_and, and_true]
  · have e : bW T q k = false := Bool.eq_false_iff.mpr (fun z => c (bW_t.mp z).1)
    rw [e, b2_f]
    simp (disch := omega) only [U_Ta_hasWord (cm _), SA, SB, SG, SV, s, h4, c, eqI, true_or, or_true, true_implies, not_true_eq_false, not_false_eq_true, false_implies, true_and, and_true]
theorem x_adv (d q : Nat) {h : MH} {T : TP} (k : XTk h T q) (Q : RT) : callD (d + 2) 67 [.ref 214] h Q = Q none (sFI h 214 (tkF (hfi h 214) T (tBe T q))) ∧ XTk (sFI h 214 (tkF (hfi h 214) T (tBe T q))) T (tBe T q) := by
  obtain ⟨s, hb, hq, h1, h2, h3, h4, h5⟩ := k
  have hB := tBe_N T hq
  refine ⟨x_advances d (tBe T q) s hb hB h1 h3 Q, s, hb, hB, ?_, ?_, ?_, ?_, ?_⟩
  all_goals
    rw [hfi_s]
    unfold tkF
    simp (disch := omega) only [up1_n, up1_s]
  exact h1
