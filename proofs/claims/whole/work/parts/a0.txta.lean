/-! ===== the reference reads an order: the whole ===== -/
def spO (j : Nat) : Nat := if j = 0 then 1 else if j = 1 then 3 else 8
def MClO (g : Nat → Int32) (cf : CFt) (nc b : Nat) (c : CLA) : Prop := c.1 ≤ 2 ∧ g b = nI c.1 ∧ g (b + 7) = nI c.2.1 ∧ (1 ≤ c.2.1 ∧ c.2.1 ≤ 20) ∧ (∃ t0 t1, g (b + 5) = nI t0 ∧ g (b + 6) = nI t1 ∧ t0 ≤ nc ∧ t1 ≤ nc ∧ (match c.2.2.1 with
  | none => t1 = t0
  | some v => TestV v ∧ Seg (lM 1 cf) t0 t1 20 v)) ∧ (∀ j, j < 3 → ∃ s0 s1, g (b + spO j) = nI s0 ∧ g (b + spO j + 1) = nI s1 ∧ s0 ≤ nc ∧ s1 ≤ nc ∧ (nSm 1 c.1 ≤ j → s0 = s1) ∧ (j < nSm 1 c.1 → Seg (lM 1 cf) s0 s1 20 (c.2.2.2 j)))
theorem MClO.of {g g' : Nat → Int32} {cf cf' : CFt} {nc nc' b : Nat} {c : CLA} (x : MClO g cf nc b c) (hg : ∀ y, b ≤ y → y < b + 10 → g' y = g y) (hN : nc ≤ nc') (h : ∀ i, i < nc → cf' i = cf i) : MClO g' cf' nc' b c := by
  obtain ⟨x1, x2, x3, x4, ⟨t0, t1, e1, e2, l1, l2, ct⟩, cs⟩ := x
  refine ⟨x1, (hg b (by omega) (by omega)).trans x2, (hg _ (by omega) (by omega)).trans x3, x4, ⟨t0, t1, (hg _ (by omega) (by omega)).trans e1, (hg _ (by omega) (by omega)).trans e2, by omega, by omega, ?_⟩, fun j hj => ?_⟩
  · revert ct
    cases c.2.2.1 with
    | none => exact fun ct => ct
    | some v => exact fun ct => ⟨ct.1, ct.2.lMo (fun k hk => h k (by omega))⟩
  · obtain ⟨s0, s1, u1, u2, u3, u4, u5, u6⟩ := cs j hj
    have sj : 1 ≤ spO j ∧ spO j ≤ 8 := by unfold spO; split; omega; split <;> omega
    exact ⟨s0, s1, (hg _ (by omega) (by omega)).trans u1, (hg _ (by omega) (by omega)).trans u2, by omega, by omega, u5, fun z => (u6 z).lMo (fun k hk => h k (by omega))⟩
def ClO (h : MH) (T : TP) (cf : CFt) (nc i : Nat) (Q : RT) : Except Nat (CLA × Nat × Nat) → Prop
  | .error f => ∀ h', MTF h h' → MErz h' f → Q none h'
  | .ok (c, q', k') => ∀ h' cf' nc', MTF h h' → MRz h' T 1 q' cf' nc' k' → hfi h' 273 21 = nI (i + 1) → (∀ j, j < nc → cf' j = cf j) → CV 1 cf' nc' → nc ≤ nc' → nc' < q' → k' ≤ 50 → (∀ x, (x < 10 * i ∨ 10 * i + 10 ≤ x) → hia h' 298 x = hia h 298 x) → MClO (hia h' 298) cf' nc' (10 * i) c → Q none h'
theorem spO_c {j : Nat} : spO j = 1 ∨ spO j = 3 ∨ spO j = 8 := by unfold spO; split; omega; split <;> omega
theorem ro_fin {h0 h : MH} {T : TP} {cf0 cf : CFt} {nc0 nc i kd q k : Nat} {vs : Nat → VAL} {Q : RT} (hkd1 : kd ≤ 2) (hq : q ≤ T.2) (F0 : MTF h0 h) (h21 : hfi h 273 21 = nI (i + 1)) (cc : ∀ j, j < nc0 → cf j = cf0 j) (nn : nc0 ≤ nc) (G1 : hia h 298 (10 * i) = nI kd) (GS : ∀ j, j < 3 → ∃ s0 s1, hia h 298 (10 * i + spO j) = nI s0 ∧ hia h 298 (10 * i + spO j + 1) = nI s1 ∧ s0 ≤ nc ∧ s1 ≤ nc ∧ (nSm 1 kd ≤ j → s0 = s1) ∧ (j < nSm 1 kd → Seg (lM 1 cf) s0 s1 20 (vs j))) (G3 : ∀ x, (x < 10 * i ∨ 10 * i + 10 ≤ x) → hia h 298 x = hia h0 298 x) (K : ClO h0 T cf0 nc0 i Q (match pTm T 1 q with
  | .error f => .error f
  | .ok (n, q2) => match pTs T 1 q2 k with
    | .error f => .error f
    | .ok (t, q3, k3) => .ok ((kd, n, t, vs), q3, k3))) : TlO h T cf nc (10 * i) Q (match pTm T 1 q with
  | .error f => .error f
  | .ok (n, q2) => match pTs T 1 q2 k with
    | .error f => .error f
    | .ok (t, q3, k3) => .ok (n, t, q3, k3)) := by
  cases h1 : pTm T 1 q with
  | error f =>
    rw [h1] at K
    exact fun h' f' e' => K h' (F0.trans f') e'
  | ok w =>
    obtain ⟨n, q2⟩ := w
    rw [h1] at K
    simp only at K ⊢
    obtain ⟨-, -, n1, n2⟩ := pTm_ok h1 hq
    cases h2 : pTs T 1 q2 k with
    | error f =>
      rw [h2] at K
      exact fun h' f' e' => K h' (F0.trans f') e'
    | ok w =>
      obtain ⟨t, q3, k3⟩ := w
      rw [h2] at K
      intro h4 cf4 nc4 f4 r4 e21 cc4 cv4 n4 l4 k4 kx g5 g6 g7 tt
      refine K h4 cf4 nc4 (F0.trans f4) r4 (e21.trans h21) (fun j hj => (cc4 j (by omega)).trans (cc j hj)) cv4 (by omega) l4 k4 (fun x hx => by rw [kx x (by omega) (by omega) (by omega), G3 x hx]) ⟨hkd1, by rw [kx _ (by omega) (by omega) (by omega)]; exact G1, g7, ⟨n1, n2⟩, ⟨nc, nc4, g5, g6, n4, Nat.le_refl _, ?_⟩, fun j hj => ?_⟩
      · cases t with
        | none => exact tt
        | some v => exact tt
      · obtain ⟨s0, s1, u1, u2, u3, u4, u5, u6⟩ := GS j hj
        have sj := spO_c (j := j)
        exact ⟨s0, s1, by rw [kx _ (by omega) (by omega) (by omega)]; exact u1, by rw [kx _ (by omega) (by omega) (by omega)]; exact u2, by omega, by omega, u5, fun z => (u6 z).lMo (fun k hk => cc4 k (by omega))⟩
theorem m_ro113_1 (d i q : Nat) (hi : i < 12) {h0 h : MH} (F0 : MTF h0 h) {T : TP} {cf : CFt} {nc k : Nat} (r : MRz h T 1 q cf nc k) (hk : k ≤ 50) (hn : nc < q) (cv : CV 1 cf nc) (h21 : hfi h 273 21 = nI (i + 1)) (G1 : hia h 298 (10 * i) = nI 1) (G2 : ∀ x, 10 * i < x → x < 10 * i + 10 → hia h 298 x = nI 0) (G3 : ∀ x, (x < 10 * i ∨ 10 * i + 10 ≤ x) → hia h 298 x = hia h0 298 x) (w3 : Option Value) (lm : Nat × Nat) (Q : RT) (K : ClO h0 T cf nc i Q (match pSm T 1 (nSm 1 1) 0 q k (fun _ => vZ) with
  | .error f => .error f
  | .ok (vs, q1, k1) => match pTm T 1 q1 with
    | .error f => .error f
    | .ok (n, q2) => match pTs T 1 q2 k1 with
      | .error f => .error f
      | .ok (t, q3, k3) => .ok ((1, n, t, vs), q3, k3))) : WP cd_Mo_readOrder (callD (d + 9)) Q lm 113 [] [some (.ref 273), some (.int (nI 1)), some (.int (nI (10 * i))), w3] h := by
  have hq := r.1.2.2.1
  have e0 : pSm T 1 (nSm 1 1) 0 q k (fun _ => vZ) = .ok (fun _ => vZ, q, k) := rfl
  rw [e0] at K
  simp only at K
  have Y := fun w1 w3 => m_ro150 (d + 2) (10 * i) q (by omega) r hk hn cv w1 w3 lm Q (ro_fin (by omega) hq F0 h21 (fun _ _ => rfl) (Nat.le_refl _) G1 (fun j hj => by
    have sj := spO_c (j := j)
    exact ⟨0, 0, G2 _ (by omega) (by omega), G2 _ (by omega) (by omega), by omega, by omega, fun _ => rfl, fun z => absurd z (by show ¬ j < nSm 1 1; exact Nat.not_lt_zero j)⟩) G3 K)
  clear K
  simp (disch := omega) only [UC_Mo_readOrder_150 (cm _), SA, SB, SC1, SC2, SG, SV, eqI, Nat.one_ne_zero, true_implies, not_true_eq_false, not_false_eq_true, false_implies, true_and, and_true]
  exact Y _ _
theorem m_ro113_2 (d i q : Nat) (hi : i < 12) {h0 h : MH} (F0 : MTF h0 h) {T : TP} {cf : CFt} {nc k : Nat} (r : MRz h T 1 q cf nc k) (hk : k ≤ 50) (hn : nc < q) (cv : CV 1 cf nc) (h21 : hfi h 273 21 = nI (i + 1)) (G1 : hia h 298 (10 * i) = nI 2) (G2 : ∀ x, 10 * i < x → x < 10 * i + 10 → hia h 298 x = nI 0) (G3 : ∀ x, (x < 10 * i ∨ 10 * i + 10 ≤ x) → hia h 298 x = hia h0 298 x) (w3 : Option Value) (lm : Nat × Nat) (Q : RT) (K : ClO h0 T cf nc i Q (match pSm T 1 (nSm 1 2) 0 q k (fun _ => vZ) with
  | .error f => .error f
  | .ok (vs, q1, k1) => match pTm T 1 q1 with
    | .error f => .error f
    | .ok (n, q2) => match pTs T 1 q2 k1 with
      | .error f => .error f
      | .ok (t, q3, k3) => .ok ((2, n, t, vs), q3, k3))) : WP cd_Mo_readOrder (callD (d + 9)) Q lm 113 [] [some (.ref 273), some (.int (nI 2)), some (.int (nI (10 * i))), w3] h := by
  have k8 := r.1.1.1
  have e0 : pSm T 1 (nSm 1 2) 0 q k (fun _ => vZ) = (match pCh T 1 40 2 0 q k with
      | .error f => .error f
      | .ok (v, q2, k2) => .ok (up1 (fun _ => vZ) 0 v, q2, k2)) := by
    show (if (0 : Nat) = 0 ∨ _ then _ else _) = _
    rw [if_pos (Or.inl rfl)]
    rfl
  rw [e0] at K
  simp (disch := omega) only [UC_Mo_readOrder_125 (cm _), SA, SB, SC1, SC2, SG, SV, k8, eqI, nI_add, Nat.reduceEqDiff, true_implies, not_true_eq_false, not_false_eq_true, false_implies, true_and, and_true]
  refine m_readSum (d + 1) (10 * i + 1) q (by omega) r hk hn cv _ ?_
  cases hp : pCh T 1 40 2 0 q k with
  | error f =>
    rw [hp] at K
    intro h3 f3 e3
    simp only [SV]
    exact m_ro125E (d + 7) (10 * i) 2 (by omega) (by omega) e3 _ lm Q (fun h4 f4 e4 => K h4 ((F0.trans f3).trans f4) e4)
  | ok w =>
    obtain ⟨v, q1, k1⟩ := w
    rw [hp] at K
    simp only at K
    intro h3 cf3 nc3 f3 r3 e21 cc sg cv3 n3 k3 e298
    simp only [SV]
    have hq1 := r3.1.2.2.1
    have sl := sg.1
    have Y := fun w1 w3 => m_ro150 (d + 2) (10 * i) q1 (by omega) r3 k3 n3 cv3 w1 w3 lm Q (ro_fin (by omega) hq1 (F0.trans f3) (e21.trans h21) cc (by omega) (by rw [e298, up1_n _ _ (by omega), up1_n _ _ (by omega)]; exact G1) (fun j hj => by
      by_cases j0 : j = 0
      · subst j0
        refine ⟨nc, nc3, ?_, ?_, by omega, by omega, fun z => absurd z (by decide), fun _ => ?_⟩
        · rw [e298]; show up1 (up1 (hia h 298) (10 * i + 1) (nI nc)) (10 * i + 1 + 1) (nI nc3) (10 * i + 1) = _; rw [up1_n _ _ (by omega), up1_s]
        · rw [e298]; show up1 (up1 (hia h 298) (10 * i + 1) (nI nc)) (10 * i + 1 + 1) (nI nc3) (10 * i + 1 + 1) = _; rw [up1_s]
        · rw [up1_s]; exact sg
      · have sj : spO j = 3 ∨ spO j = 8 := by unfold spO; rw [if_neg j0]; split <;> omega
        refine ⟨0, 0, ?_, ?_, by omega, by omega, fun _ => rfl, fun z => absurd z (by show ¬ j < 1; omega)⟩
        · rw [e298, up1_n _ _ (by omega), up1_n _ _ (by omega)]; exact G2 _ (by omega) (by omega)
        · rw [e298, up1_n _ _ (by omega), up1_n _ _ (by omega)]; exact G2 _ (by omega) (by omega)) (fun x hx => by rw [e298, up1_n _ _ (by omega), up1_n _ _ (by omega)]; exact G3 x hx) K)
    clear K
    simp (disch := omega) only [UC_Mo_readOrder_150 (cm _), SA, SB, SC1, SC2, SG, SV, eqI, Nat.reduceEqDiff, true_implies, not_true_eq_false, not_false_eq_true, false_implies, true_and, and_true]
    exact Y _ _
