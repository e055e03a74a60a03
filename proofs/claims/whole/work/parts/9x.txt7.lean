/-! ===== the reference reads the sums of an order ===== -/
theorem m_readSumE (d a : Nat) (ha : a ≤ 118) {h : MH} {f : Nat} (e : MErz h f) (Q : RT) (K : ∀ h', MTF h h' → MErz h' f → Q none h') : callD (d + 1) 235 [.ref 273, .int (nI a)] h Q := by
  obtain ⟨k8, m1, m2, m3, -⟩ := (MErz_M e).ord
  have b := e.1
  have Y := fun g => K (sIA h 298 g) (MTF_c h (Or.inr rfl) g) (MErz_c e (Or.inr rfl) g)
  rw [E_Mo_readSum]
  simp (disch := omega) only [U_Mo_readSum (cm _), SA, SB, SC1, SC2, SG, SK, SV, SM, k8, m1, m2, m3, b, nI_add, nI_clamp, in_eq, eqI, Nat.one_ne_zero, Nat.reduceLeDiff, true_implies, not_true_eq_false, not_false_eq_true, false_implies, true_and, and_true]
  exact Y _
def SuM (h : MH) (T : TP) (cf : CFt) (nc a : Nat) (Q : RT) : PRs → Prop
  | .error f => ∀ h', MTF h h' → MErz h' f → Q none h'
  | .ok (v, q', k') => ∀ h' cf' nc', MTF h h' → MRz h' T 1 q' cf' nc' k' → hfi h' 273 21 = hfi h 273 21 → (∀ i, i < nc → cf' i = cf i) → Seg (lM 1 cf') nc nc' 20 v → CV 1 cf' nc' → nc' < q' → k' ≤ 50 → hia h' 298 = up1 (up1 (hia h 298) a (nI nc)) (a + 1) (nI nc') → Q none h'
theorem m_rs22E (d a : Nat) (ha : a ≤ 118) {h : MH} {f : Nat} (e : MErz h f) (lm : Nat × Nat) (Q : RT) (K : ∀ h', MTF h h' → MErz h' f → Q none h') : WP cd_Mo_readSum (callD d) Q lm 22 [] [some (.ref 273), some (.int (nI a))] h := by
  obtain ⟨k8, m1, m2, m3, -⟩ := (MErz_M e).ord
  have Y := fun g => K (sIA h 298 g) (MTF_c h (Or.inr rfl) g) (MErz_c e (Or.inr rfl) g)
  simp (disch := omega) only [U_Mo_readSum (cm _), SA, SB, SC1, SC2, SG, SK, SV, SM, k8, m1, m2, m3, nI_add, nI_clamp, in_eq, Nat.reduceLeDiff, true_implies, not_true_eq_false, not_false_eq_true, false_implies, true_and, and_true]
  exact Y _
theorem MTF.f21 {h h' : MH} (f : MRF h h') : hfi h' 273 21 = hfi h 273 21 := f.2.2.2.1 21 (by omega) (by omega) (by omega) (by omega) (by omega) (by omega) (by omega) (by omega) (by omega)
theorem m_readSum (d a q : Nat) (ha : a ≤ 118) {h : MH} {T : TP} {cf : CFt} {nc k : Nat} (r : MRz h T 1 q cf nc k) (hk : k ≤ 50) (hn : nc < q) (cv : CV 1 cf nc) (Q : RT) (K : SuM h T cf nc a Q (pCh T 1 40 2 0 q k)) : callD (d + 8) 235 [.ref 273, .int (nI a)] h Q := by
  obtain ⟨k8, m1, m2, m3, -⟩ := r.2.1.1.ord
  have b := r.2.2.2.1
  have n23 := r.2.1.2.1
  have R1 := MRz_c r (x := 298) (Or.inr rfl) (up1 (hia h 298) a (nI nc))
  have F1 := MTF_c h (x := 298) (Or.inr rfl) (up1 (hia h 298) a (nI nc))
  have g8 : hia (sIA h 298 (up1 (hia h 298) a (nI nc))) 298 = up1 (hia h 298) a (nI nc) := hia_s _ _ _
  have g21 : hfi (sIA h 298 (up1 (hia h 298) a (nI nc))) 273 21 = hfi h 273 21 := rfl
  have RE := fun Q => m_readExpression d q false (Or.inr rfl) R1 hk hn cv Q
  simp only [b2_f, Bool.false_eq_true, if_false] at RE
  rw [E_Mo_readSum]
  simp (disch := omega) only [U_Mo_readSum (cm _), SA, SB, SC1, SC2, SG, SK, SV, SM, k8, m1, m2, m3, b, n23, nI_add, nI_clamp, in_eq, eqI, Nat.one_ne_zero, Nat.reduceLeDiff, true_implies, not_true_eq_false, not_false_eq_true, false_implies, true_and, and_true]
  refine RE _ ?_
  clear RE
  generalize sIA h 298 (up1 (hia h 298) a (nI nc)) = h1 at *
  cases hp : pCh T 1 40 2 0 q k with
  | error f =>
    rw [hp] at K
    intro h3 f3 e3
    simp only [SV]
    exact m_rs22E (d + 7) a ha e3 _ Q (fun h4 f4 e4 => K h4 ((F1.trans f3.T).trans f4) e4)
  | ok w =>
    obtain ⟨v, q2, k2⟩ := w
    rw [hp] at K
    intro h3 cf3 nc3 f3 r3 cc sg cv3 n3 k3
    obtain ⟨k83, m31, m32, m33, -⟩ := r3.2.1.1.ord
    have n33 := r3.2.1.2.1
    have e298 : hia h3 298 = up1 (hia h 298) a (nI nc) := by rw [f3.2.2.1 298 (by omega), g8]
    have Y := K (sIA h3 298 (up1 (up1 (hia h 298) a (nI nc)) (a + 1) (nI nc3))) cf3 nc3 ((F1.trans f3.T).trans (MTF_c h3 (Or.inr rfl) _)) (MRz_c r3 (Or.inr rfl) _) ((MTF.f21 f3).trans g21) cc sg cv3 n3 k3 (hia_s _ _ _)
    simp (disch := omega) only [U_Mo_readSum (cm _), SA, SB, SC1, SC2, SG, SK, SV, SM, k83, m31, m32, m33, n33, e298, nI_add, nI_clamp, in_eq, eqI, Nat.one_ne_zero, Nat.reduceLeDiff, true_implies, not_true_eq_false, not_false_eq_true, false_implies, true_and, and_true]
    exact Y
theorem m_readBehindE (d a : Nat) (ha : a ≤ 118) (w : Int64) {h : MH} {f : Nat} (e : MErz h f) (Q : RT) (K : ∀ h', MTF h h' → MErz h' f → Q none h') : callD (d + 2) 236 [.ref 273, .long w, .int (nI a)] h Q := by
  obtain ⟨k8, -⟩ := (MErz_M e).ord
  have b := e.1
  rw [E_Mo_readBehind]
  simp (disch := omega) only [U_Mo_readBehind (cm _), SA, SB, SC1, SC2, SG, SV, k8, b, eqI, Nat.one_ne_zero, true_implies, not_true_eq_false, not_false_eq_true, false_implies, true_and, and_true]
  refine m_readSumE d a ha e _ (fun h' m e' => ?_)
  simp (disch := omega) only [U_Mo_readBehind (cm _), SA, SB, SC1, SC2, SG, SV]
  exact K h' m e'
theorem m_readBehind (d a q x : Nat) (ha : a ≤ 118) (hx : x < 22) {h : MH} {T : TP} {cf : CFt} {nc k : Nat} (r : MRz h T 1 q cf nc k) (hk : k ≤ 50) (hn : nc < q) (cv : CV 1 cf nc) (Q : RT) (K0 : bW T q x = false → ∀ h', MTF h h' → MErz h' (tAt T q) → Q none h') (K : bW T q x = true → SuM h T cf nc a Q (pCh T 1 40 2 0 (tBe T q) k)) : callD (d + 9) 236 [.ref 273, .long (lN (ev (wds x).reverse)), .int (nI a)] h Q := by
  obtain ⟨k8, -⟩ := r.2.1.1.ord
  have b := r.2.2.2.1
  have hq := r.1.2.2.1
  have W := fun Q => m_isWord (d + 7) q x hx r.1 Q
  rw [E_Mo_readBehind]
  cases c : bW T q x with
  | false =>
    rw [c, b2_f] at W
    have K0 := K0 c
    have M0 := fun Q => m_must (d + 5) q false r.1 r.2.2.2.1 Q
    simp only [b2_f, Bool.false_eq_true, if_false] at M0
    obtain ⟨B1, B2⟩ := MRz_bd r
    have bk : hkd (bdH h) 273 = 8 := k8
    generalize bdH h = h1 at *
    simp (disch := omega) only [U_Mo_readBehind (cm _), SA, SB, SC1, SC2, SG, SV, k8, b, W, M0, bk, eqI, Nat.one_ne_zero, true_implies, not_true_eq_false, not_false_eq_true, false_implies, true_and, and_true]
    refine m_readSumE (d + 7) a ha B1 _ (fun h' m e' => ?_)
    simp (disch := omega) only [U_Mo_readBehind (cm _), SA, SB, SC1, SC2, SG, SV]
    exact K0 h' (B2.T.trans m) e'
  | true =>
    rw [c, b2_t] at W
    have K := K c
    obtain ⟨a1, a2⟩ := bW_adv hq hx c
    have M1 := fun Q => m_must (d + 5) q true r.1 r.2.2.2.1 Q
    simp only [b2_t, if_true] at M1
    obtain ⟨N1, N2⟩ := MRz_nx r
    have nk := N1.1.1.1
    have n298 : hia (nxH h T q) 298 = hia h 298 := N2.2.2.1 298 (by omega)
    have n21 := MTF.f21 N2
    generalize nxH h T q = h1 at *
    simp (disch := omega) only [U_Mo_readBehind (cm _), SA, SB, SC1, SC2, SG, SV, k8, b, W, M1, nk, eqI, Nat.one_ne_zero, true_implies, not_true_eq_false, not_false_eq_true, false_implies, true_and, and_true]
    refine m_readSum d a (tBe T q) ha N1 hk (by omega) cv _ ?_
    cases hp : pCh T 1 40 2 0 (tBe T q) k with
    | error f =>
      rw [hp] at K
      intro h3 f3 e3
      simp (disch := omega) only [U_Mo_readBehind (cm _), SA, SB, SC1, SC2, SG, SV]
      exact K h3 (N2.T.trans f3) e3
    | ok w =>
      obtain ⟨v, q2, k2⟩ := w
      rw [hp] at K
      intro h3 cf3 nc3 f3 r3 e21 cc sg cv3 n3 k3 e298
      simp (disch := omega) only [U_Mo_readBehind (cm _), SA, SB, SC1, SC2, SG, SV]
      exact K h3 cf3 nc3 (N2.T.trans f3) r3 (e21.trans n21) cc sg cv3 n3 k3 (by rw [e298, n298])
