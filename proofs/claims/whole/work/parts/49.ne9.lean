/-! ===== links that change, messages that are heard ===== -/
theorem m7z {x : Int32} (hx : M7 x) (h : ∀ o, o < 7 → ¬ bt x o = nI 1) : x = nI 0 := hx.ext m7_0 (fun o ho => by
  rcases hx.bt ho with e | e
  · rw [e, bt_0 o ho]
  · exact absurd e (h o ho))
theorem nb_none {p : RW} {r : Nat} (h : mNb p r = nI 0) {o : Nat} (ho : o < 7) : ¬ nI 0 < gC p r o := fun q => by
  have := ((mNb_b p r).2 o ho).mpr q
  rw [h, bt_0 o ho] at this
  exact n01 this
theorem y_tc64 (d n r o : Nat) (hr : r < 7) (ho : o < 7) {h0 h : MH} {p : RW} (X : XN h0 n h p) (hQ : QL p 413) (hC : CN p) (hs : SU (gR p r 2)) (hw : M7 (gR p r 5)) (h0w : mNb p r = nI 0 → gR p r 5 = nI 0) (Q : RT) (lm : Nat × Nat) (kk : ∀ h', XN h0 n h' (mTL2 p r o) → Q none h') : WP cd_Ne_takesChange (callD (d + 4)) Q lm 64 [] [some (.ref n), some (.int (nI r)), some (.int (nI o))] h := by
  obtain ⟨sh, h24⟩ := X.2.1.all
  unfold mTL2 at kk
  simp (disch := omega) only [U_Ne_takesChange (cm _), SA, SB, SC1, SC2, SG, SV, sh, true_and, and_true]
  refine y_looksAt (d + 1) n r o hr ho X _ (fun h' X1 => ?_)
  obtain ⟨sh, h24⟩ := X1.2.1.all
  have hp : ∃ p2, (if gR p r 2 = nI o ∧ gR p r 0 < mBy p r o then up1 p (105 + 7 * r + 6) (nI 1) else p) = p2 ∧ QL p2 413 ∧ CN p2 ∧ SU (gR p2 r 2) ∧ M7 (gR p2 r 5) ∧ (mNb p2 r = nI 0 → gR p2 r 5 = nI 0) := by
    by_cases c : gR p r 2 = nI o ∧ gR p r 0 < mBy p r o
    · rw [if_pos c]
      refine ⟨_, rfl, by rw [QL_up (by omega)]; exact hQ, fun a b h1 h2 => by rw [gC_up (by omega)]; exact hC a b h1 h2, by rw [gR_up (by omega)]; exact hs, by rw [gR_up (by omega)]; exact hw, ?_⟩
      rw [mNb_up hr (by omega), gR_up (by omega)]
      exact h0w
    · rw [if_neg c]
      exact ⟨_, rfl, hQ, hC, hs, hw, h0w⟩
  obtain ⟨p2, ep, q1, q2, q3, q4, q5⟩ := hp
  rw [ep] at X1 kk
  unfold mTL3 at kk
  have e7 := X1.2.2.2.2.2.2.2.2.1 r hr
  by_cases c : gR p2 r 4 = nI 0
  · rw [if_pos c] at kk
    simp (disch := omega) only [U_Ne_takesChange (cm _), SA, SB, SC1, SC2, SG, SV, sh, e7, c, nI_clamp, in_eq, true_implies, not_true_eq_false, not_false_eq_true, false_implies, true_and, and_true]
    refine y_ends d n r hr X1 q1 q2 q3 q4 q5 _ (fun h'' X2 => ?_)
    simp only [SV, U_Ne_takesChange (cm _), SA, SB]
    exact kk _ X2
  · rw [if_neg c] at kk
    simp (disch := omega) only [U_Ne_takesChange (cm _), SA, SB, SC1, SC2, SG, SV, sh, e7, c, nI_clamp, in_eq, true_implies, not_true_eq_false, not_false_eq_true, false_implies, true_and, and_true]
    exact kk _ X1
theorem y_takesChange (d n r o : Nat) (hr : r < 7) (ho : o < 7) {h0 h : MH} {p : RW} (X : XN h0 n h p) (hQ : QL p 413) (hC : CN p) (hs : SU (gR p r 2)) (hw : M7 (gR p r 5)) (hsub : ∀ a, a < 7 → a ≠ o → bt (gR p r 5) a = nI 1 → nI 0 < gC p r a) (Q : RT) (kk : ∀ h', XN h0 n h' (mTL p r o) → Q none h') : callD (d + 5) 31 [.ref n, .int (nI r), .int (nI o)] h Q := by
  obtain ⟨sh, h24⟩ := X.2.1.all
  have n7 : 24 ≤ n + 7 := by omega
  have n8 : 24 ≤ n + 8 := by omega
  obtain ⟨-, -, -, w3⟩ := X.2.2.2.2.2.2.2.2.2.2.2.2.1
  have a3 := w3 r hr
  have e3 := X.2.2.2.2.1 r hr
  have e7 := X.2.2.2.2.2.2.2.2.1 r hr
  have e8 := X.2.2.2.2.2.2.2.2.2.1 r hr
  rw [E_Ne_takesChange]
  unfold mTL at kk
  by_cases c0 : r = 0
  · subst c0
    rw [if_pos rfl] at kk
    simp (disch := omega) only [U_Ne_takesChange (cm _), SA, SB, SC1, SC2, SG, SV, true_implies, not_true_eq_false, not_false_eq_true, false_implies, true_and, and_true]
    exact kk _ X
  · rw [if_neg c0] at kk
    by_cases c1 : gR p r 3 = nI 0
    · rw [if_pos c1] at kk
      simp (disch := omega) only [U_Ne_takesChange (cm _), SA, SB, SC1, SC2, SG, SV, sh, e_bit, a3, c0, c1, eqI, true_implies, not_true_eq_false, not_false_eq_true, false_implies, true_and, and_true]
      refine y_decides d n r hr (nI 0) X hQ hC hs m7_0 (fun _ => rfl) _ (fun h' X' => ?_)
      simp only [SV, U_Ne_takesChange (cm _), SA, SB]
      exact kk _ X'
    · rw [if_neg c1] at kk
      unfold mTL1 at kk
      by_cases c2 : gC p r o = nI 0
      · rw [if_pos c2] at kk
        have hb : bt (mNb p r) o = nI 0 := by
          rcases (mNb_b p r).1.bt ho with e | e
          · exact e
          · have := ((mNb_b p r).2 o ho).mp e; rw [c2] at this; exact absurd this Int32.lt_irrefl
        obtain ⟨hw1, hw2⟩ := hw.an ho
        have X1 := (X.owd hr (gR p r 5 &&& (sh1 o ^^^ (-1)))).out hr (gR p r 4 &&& (sh1 o ^^^ (-1)))
        have g5 : gR (up1 (up1 p (105 + 7 * r + 5) (gR p r 5 &&& (sh1 o ^^^ (-1)))) (105 + 7 * r + 4) (gR p r 4 &&& (sh1 o ^^^ (-1)))) r 5 = gR p r 5 &&& (sh1 o ^^^ (-1)) := by rw [gR_up (by omega)]; exact up1_s _ _ _
        have Y := y_tc64 d n r o hr ho X1 (by rw [QL_up (by omega), QL_up (by omega)]; exact hQ) (fun a b h1 h2 => by rw [gC_up (by omega), gC_up (by omega)]; exact hC a b h1 h2) (by rw [gR_up (by omega), gR_up (by omega)]; exact hs) (by rw [g5]; exact hw1) (by
          intro hz
          rw [mNb_up hr (by omega), mNb_up hr (by omega)] at hz
          rw [g5]
          refine m7z hw1 (fun a ha q => ?_)
          rw [hw2 a ha] at q
          by_cases e : a = o
          · rw [if_pos e] at q; exact n01 q
          · rw [if_neg e] at q; exact nb_none hz ha (hsub a ha e q)) Q (hcc h, hcu h) kk
        unfold sh1 at Y
        simp (disch := omega) only [SG, SK, SM, sIA_c, up1_s, up1_n, up1_up1] at Y
        have m64 : WP cd_Ne_takesChange (callD (d + 4)) Q (hcc h, hcu h) 64 [] [some (.ref n), some (.int (nI r)), some (.int (nI o))] (sIA (sIA h (n + 7) (up1 (hia h (n + 7)) r (gR p r 4 &&& (nI 1 <<< (nI o &&& 31) ^^^ (-1))))) (n + 8) (up1 (hia h (n + 8)) r (gR p r 5 &&& (nI 1 <<< (nI o &&& 31) ^^^ (-1))))) := Y
        simp (disch := omega) only [U_Ne_takesChange (cm _), SA, SB, SC1, SC2, SG, SV, SK, SM, sIA_c, sh, e_bit, a3, e3, e7, e8, hb, c0, c1, eqI, n7, n8, nI_clamp, in_eq, up1_s, up1_n, up1_up1, true_implies, not_true_eq_false, not_false_eq_true, false_implies, true_and, and_true] at m64 ⊢
        with_reducible exact m64
      · rw [if_neg c2] at kk
        have hp : nI 0 < gC p r o := Int32.lt_of_le_of_ne (Int32.not_lt.mp (hC r o hr ho)) (fun e => c2 e.symm)
        have hb : bt (mNb p r) o = nI 1 := ((mNb_b p r).2 o ho).mpr hp
        have m64 := y_tc64 d n r o hr ho X hQ hC hs hw (fun hz => absurd hp (nb_none hz ho)) Q (hcc h, hcu h) kk
        simp (disch := omega) only [U_Ne_takesChange (cm _), SA, SB, SC1, SC2, SG, SV, SK, SM, sIA_c, sh, e_bit, a3, e3, e7, e8, hb, c0, c1, eqI, n10, Nat.one_ne_zero, n7, n8, nI_clamp, in_eq, up1_s, up1_n, up1_up1, true_implies, not_true_eq_false, not_false_eq_true, false_implies, true_and, and_true] at m64 ⊢
        with_reducible exact m64
theorem bt_sh : ∀ o, o < 7 → ∀ a, a < 7 → (bt (sh1 o) a = nI 1 ↔ a = o) := by decide +kernel
theorem m7_sh : ∀ o, o < 7 → M7 (sh1 o) := fun o ho => ⟨1 <<< o, by
  have : ∀ o, o < 7 → 1 <<< o < 128 := by decide
  exact this o ho, by
  have : ∀ o, o < 7 → sh1 o = nI (1 <<< o) := by decide +kernel
  exact this o ho⟩
/-- to one alone -/
theorem sall_1 (p : RW) (k : Int32) (r : Nat) {o : Nat} (ho : o < 7) : mSendAll p k r (sh1 o) = mSend p k (nI r) (nI o) r := by
  have key : ∀ (m i : Nat) (p : RW), i + m = 7 → itr (fun p a => if bt (sh1 o) a = nI 1 then mSend p k (nI r) (nI a) r else p) i m p = if i ≤ o then mSend p k (nI r) (nI o) r else p := by
    intro m
    induction m with
    | zero => intro i p hi; rw [itr_0, if_neg (by omega)]
    | succ m ih =>
      intro i p hi
      rw [itr_s, ih (i + 1) _ (by omega)]
      by_cases e : i = o
      · subst e
        rw [if_neg (by omega), if_pos ((bt_sh i ho i ho).mpr rfl), if_pos (Nat.le_refl _)]
      · rw [if_neg (fun q => e ((bt_sh o ho i (by omega)).mp q))]
        by_cases l : i ≤ o
        · rw [if_pos l, if_pos (by omega)]
        · rw [if_neg l, if_neg (by omega)]
  have := key 7 0 p rfl
  rw [if_pos (Nat.zero_le _)] at this
  exact this
theorem cnt_sh {o : Nat} (ho : o < 7) : cnt (sh1 o) = 1 := by
  have : ∀ o, o < 7 → cnt (sh1 o) = 1 := by decide +kernel
  exact this o ho
set_option maxHeartbeats 2000000 in
theorem y_hears (d n r o k : Nat) (hr : r < 7) (ho : o < 7) (hk : k < 3) {h0 h : MH} {p : RW} (X : XN h0 n h p) (hQ : QL p 413) (hC : CN p) (hs : SU (gR p r 2)) (hw : M7 (gR p r 5)) (h0w : mNb p r = nI 0 → gR p r 5 = nI 0) (Q : RT) (kk : ∀ h', XN h0 n h' (mTA p r o k) → Q none h') : callD (d + 5) 34 [.ref n, .int (nI r), .int (nI o), .int (nI k)] h Q := by
  obtain ⟨sh, h24⟩ := X.2.1.all
  have n7 : 24 ≤ n + 7 := by omega
  have n8 : 24 ≤ n + 8 := by omega
  have e6 := X.2.2.2.2.2.2.2.1 r hr
  have e7 := X.2.2.2.2.2.2.2.2.1 r hr
  have e8 := X.2.2.2.2.2.2.2.2.2.1 r hr
  have hq2 := hQ.2
  rw [E_Ne_hears]
  unfold mTA at kk
  rcases (show k = 0 ∨ k = 1 ∨ k = 2 by omega) with e | e | e <;> subst e
  · rw [if_pos rfl] at kk
    simp (disch := omega) only [U_Ne_hears (cm _), SA, SB, SC1, SC2, SG, SV, sh, true_implies, not_true_eq_false, not_false_eq_true, false_implies, true_and, and_true]
    refine y_looksAt (d + 1) n r o hr ho X _ (fun h' X1 => ?_)
    simp only [SV, U_Ne_hears (cm _), SA, SB]
    exact kk _ X1
  · rw [if_neg (by omega), if_pos rfl] at kk
    by_cases c : gR p r 2 = nI o
    · rw [if_pos c] at kk
      have X1 := (X.owd hr (gR p r 5 ||| sh1 o)).wor1 hr
      unfold sh1 at X1 kk
      simp (disch := omega) only [SG, SK, SM, sIA_c, up1_s, up1_n, up1_up1] at X1
      simp (disch := omega) only [U_Ne_hears (cm _), SA, SB, SC1, SC2, SG, SV, SK, SM, sIA_c, sh, e6, e8, c, eqI, n8, nI_clamp, in_eq, up1_s, up1_n, up1_up1, Nat.one_ne_zero, Nat.reduceEqDiff, true_implies, not_true_eq_false, not_false_eq_true, false_implies, true_and, and_true]
      exact kk _ X1
    · rw [if_neg c, ← sall_1 p (nI 2) r ho] at kk
      have Y := y_sends (d + 3) n r hr (nI 2) (sh1 o) X hQ.1 (by rw [cnt_sh ho]; omega)
      unfold sh1 at kk Y
      simp (disch := omega) only [U_Ne_hears (cm _), SA, SB, SC1, SC2, SG, SV, SK, SM, sh, e6, c, eqI, nI_clamp, in_eq, Nat.one_ne_zero, Nat.reduceEqDiff, true_implies, not_true_eq_false, not_false_eq_true, false_implies, true_and, and_true]
      refine Y _ (fun h' X1 => ?_)
      simp only [SV, U_Ne_hears (cm _), SA, SB]
      exact kk _ X1
  · rw [if_neg (by omega), if_neg (by omega)] at kk
    unfold mTL3 at kk
    have X1 := X.out hr (gR p r 4 &&& (sh1 o ^^^ (-1)))
    have g4 : gR (up1 p (105 + 7 * r + 4) (gR p r 4 &&& (sh1 o ^^^ (-1)))) r 4 = gR p r 4 &&& (sh1 o ^^^ (-1)) := up1_s _ _ _
    by_cases c : gR p r 4 &&& (sh1 o ^^^ (-1)) = nI 0
    · rw [if_pos (g4.trans c)] at kk
      have Y := y_ends d n r hr X1 (by rw [QL_up (by omega)]; exact hQ) (fun a b h1 h2 => by rw [gC_up (by omega)]; exact hC a b h1 h2) (by rw [gR_up (by omega)]; exact hs) (by rw [gR_up (by omega)]; exact hw) (by rw [mNb_up hr (by omega), gR_up (by omega)]; exact h0w)
      unfold sh1 at c kk Y
      simp (disch := omega) only [U_Ne_hears (cm _), SA, SB, SC1, SC2, SG, SV, SK, SM, sIA_c, sh, e7, c, eqI, n7, nI_clamp, in_eq, up1_s, up1_n, up1_up1, Nat.reduceEqDiff, true_implies, not_true_eq_false, not_false_eq_true, false_implies, true_and, and_true]
      rw [c] at Y kk
      refine Y _ (fun h' X2 => ?_)
      simp only [SV, U_Ne_hears (cm _), SA, SB]
      exact kk _ X2
    · rw [if_neg (fun q => c (g4.symm.trans q))] at kk
      unfold sh1 at c kk X1
      simp (disch := omega) only [U_Ne_hears (cm _), SA, SB, SC1, SC2, SG, SV, SK, SM, sIA_c, sh, e7, c, eqI, n7, nI_clamp, in_eq, up1_s, up1_n, up1_up1, Nat.reduceEqDiff, true_implies, not_true_eq_false, not_false_eq_true, false_implies, true_and, and_true]
      exact kk _ X1
