/-! ===== the reference reads an order: links, and the head ===== -/
theorem pSm_s (T : TP) (om m j q k : Nat) (vs : Nat → VAL) (hj : j ≠ 0) : pSm T om (m + 1) j q k vs = if bW T q (4 + j) = true then (match pCh T om 40 2 0 (tBe T q) k with
    | .error f => .error f
    | .ok (v, q2, k2) => pSm T om m (j + 1) q2 k2 (up1 vs j v)) else .error (tAt T q) := by
  show (if j = 0 ∨ bW T q (4 + j) = true then _ else _) = _
  by_cases c : bW T q (4 + j) = true
  · rw [if_pos (Or.inr c), if_pos c, if_neg hj]
    rfl
  · rw [if_neg (by rintro (z | z); exact hj z; exact c z), if_neg c]
/-- the sums read so far -/
def GSs (g : Nat → Int32) (cf : CFt) (nc b m : Nat) (vs : Nat → VAL) : Prop := ∀ j, j < m → ∃ s0 s1, g (b + spO j) = nI s0 ∧ g (b + spO j + 1) = nI s1 ∧ s0 ≤ nc ∧ s1 ≤ nc ∧ Seg (lM 1 cf) s0 s1 20 (vs j)
theorem GSs_s {g : Nat → Int32} {cf cf' : CFt} {nc nc' b m : Nat} {vs : Nat → VAL} (hm : m < 3) (G : GSs g cf nc b m vs) (cc : ∀ i, i < nc → cf' i = cf i) {v : VAL} (sg : Seg (lM 1 cf') nc nc' 20 v) : GSs (up1 (up1 g (b + spO m) (nI nc)) (b + spO m + 1) (nI nc')) cf' nc' b (m + 1) (up1 vs m v) := fun j hj => by
  have sl := sg.1
  by_cases e : j = m
  · subst e
    refine ⟨nc, nc', ?_, by rw [up1_s], by omega, by omega, by rw [up1_s]; exact sg⟩
    rw [up1_n _ _ (by omega), up1_s]
  · obtain ⟨s0, s1, u1, u2, u3, u4, u5⟩ := G j (by omega)
    have d1 : spO j + 2 ≤ spO m := by
      rcases (show (j = 0 ∧ m = 1) ∨ (j = 0 ∧ m = 2) ∨ (j = 1 ∧ m = 2) by omega) with ⟨rfl, rfl⟩ | ⟨rfl, rfl⟩ | ⟨rfl, rfl⟩ <;> decide
    refine ⟨s0, s1, ?_, ?_, by omega, by omega, ?_⟩
    · rw [up1_n _ _ (by omega), up1_n _ _ (by omega)]; exact u1
    · rw [up1_n _ _ (by omega), up1_n _ _ (by omega)]; exact u2
    · rw [up1_n _ _ e]; exact u5.lMo (fun k hk => cc k (by omega))
def LnK (h0 : MH) (T : TP) (cf0 : CFt) (nc0 i m j q k : Nat) (vs : Nat → VAL) (Q : RT) : Prop := ClO h0 T cf0 nc0 i Q (match pSm T 1 m j q k vs with
  | .error f => .error f
  | .ok (vs, q1, k1) => match pTm T 1 q1 with
    | .error f => .error f
    | .ok (n, q2) => match pTs T 1 q2 k1 with
      | .error f => .error f
      | .ok (t, q3, k3) => .ok ((0, n, t, vs), q3, k3))
theorem LnK_er {h0 : MH} {T : TP} {cf0 : CFt} {nc0 i m j q k f : Nat} {vs : Nat → VAL} {Q : RT} (K : LnK h0 T cf0 nc0 i m j q k vs Q) (e : pSm T 1 m j q k vs = .error f) : ∀ h', MTF h0 h' → MErz h' f → Q none h' := by
  unfold LnK at K
  rw [e] at K
  exact K
theorem LnK_to {h0 : MH} {T : TP} {cf0 : CFt} {nc0 i m j q k m' j' q' k' : Nat} {vs vs' : Nat → VAL} {Q : RT} (K : LnK h0 T cf0 nc0 i m j q k vs Q) (e : pSm T 1 m j q k vs = pSm T 1 m' j' q' k' vs') : LnK h0 T cf0 nc0 i m' j' q' k' vs' Q := by
  unfold LnK at K ⊢
  rw [e] at K
  exact K
theorem m_ro150L (d i q : Nat) (hi : i < 12) {h0 h : MH} (F0 : MTF h0 h) {T : TP} {cf0 : CFt} {nc0 : Nat} {cf : CFt} {nc k : Nat} {vs : Nat → VAL} (r : MRz h T 1 q cf nc k) (hk : k ≤ 50) (hn : nc < q) (cv : CV 1 cf nc) (cc : ∀ j, j < nc0 → cf j = cf0 j) (nn : nc0 ≤ nc) (h21 : hfi h 273 21 = nI (i + 1)) (G1 : hia h 298 (10 * i) = nI 0) (G2 : GSs (hia h 298) cf nc (10 * i) 3 vs) (G3 : ∀ x, (x < 10 * i ∨ 10 * i + 10 ≤ x) → hia h 298 x = hia h0 298 x) (w1 w3 : Option Value) (lm : Nat × Nat) (Q : RT) (K : LnK h0 T cf0 nc0 i 0 3 q k vs Q) : WP cd_Mo_readOrder (callD (d + 9)) Q lm 150 [] [some (.ref 273), w1, some (.int (nI (10 * i))), w3] h :=
  m_ro150 (d + 2) (10 * i) q (by omega) r hk hn cv w1 w3 lm Q (ro_fin (by omega) r.1.2.2.1 F0 h21 cc nn G1 (fun j hj => by
    obtain ⟨s0, s1, u1, u2, u3, u4, u5⟩ := G2 j hj
    exact ⟨s0, s1, u1, u2, u3, u4, fun z => absurd z (by show ¬ 3 ≤ j; omega), fun _ => u5⟩) G3 K)
theorem m_ro139L (d i q : Nat) (hi : i < 12) {h0 h : MH} (F0 : MTF h0 h) {T : TP} {cf0 : CFt} {nc0 : Nat} {cf : CFt} {nc k : Nat} {vs : Nat → VAL} (r : MRz h T 1 q cf nc k) (hk : k ≤ 50) (hn : nc < q) (cv : CV 1 cf nc) (cc : ∀ j, j < nc0 → cf j = cf0 j) (nn : nc0 ≤ nc) (h21 : hfi h 273 21 = nI (i + 1)) (G1 : hia h 298 (10 * i) = nI 0) (G2 : GSs (hia h 298) cf nc (10 * i) 2 vs) (G3 : ∀ x, (x < 10 * i ∨ 10 * i + 10 ≤ x) → hia h 298 x = hia h0 298 x) (w1 w3 : Option Value) (lm : Nat × Nat) (Q : RT) (K : LnK h0 T cf0 nc0 i 1 2 q k vs Q) : WP cd_Mo_readOrder (callD (d + 9)) Q lm 139 [] [some (.ref 273), w1, some (.int (nI (10 * i))), w3] h := by
  have k8 := r.1.1.1
  have B := fun Q K0 K => m_readBehind d (10 * i + 8) q 6 (by omega) (by omega) r hk hn cv Q K0 K
  simp only [show ev (wds 6).reverse = 51 by decide] at B
  have es := pSm_s T 1 0 2 q k vs (by omega)
  simp (disch := omega) only [U_Mo_readOrder (cm _), SA, SB, SC1, SC2, SG, SV, k8, nI_add, true_and]
  refine B _ (fun c h' m e => ?_) (fun c => ?_)
  · rw [if_neg (by rw [c]; decide)] at es
    simp only [SV]
    exact m_ro150E (d + 9) (10 * i) (by omega) e _ _ lm Q (fun h2 m2 e2 => LnK_er K es h2 ((F0.trans m).trans m2) e2)
  · rw [if_pos c] at es
    cases hp : pCh T 1 40 2 0 (tBe T q) k with
    | error f =>
      rw [hp] at es
      intro h3 f3 e3
      simp only [SV]
      exact m_ro150E (d + 9) (10 * i) (by omega) e3 _ _ lm Q (fun h2 m2 e2 => LnK_er K es h2 ((F0.trans f3).trans m2) e2)
    | ok w =>
      obtain ⟨v, q1, k1⟩ := w
      rw [hp] at es
      intro h3 cf3 nc3 f3 r3 e21 cc3 sg cv3 n3 k3 e298
      have sl := sg.1
      simp only [SV]
      refine m_ro150L d i q1 hi (F0.trans f3) r3 k3 n3 cv3 (fun j hj => (cc3 j (by omega)).trans (cc j hj)) (by omega) (e21.trans h21) (by rw [e298, up1_n _ _ (by omega), up1_n _ _ (by omega)]; exact G1) (by rw [e298]; exact GSs_s (m := 2) (by omega) G2 cc3 sg) (fun x hx => by rw [e298, up1_n _ _ (by omega), up1_n _ _ (by omega)]; exact G3 x hx) _ _ lm Q (LnK_to K es)
theorem m_ro125L (d i q : Nat) (hi : i < 12) {h0 h : MH} (F0 : MTF h0 h) {T : TP} {cf0 : CFt} {nc0 : Nat} {cf : CFt} {nc k : Nat} {vs : Nat → VAL} (r : MRz h T 1 q cf nc k) (hk : k ≤ 50) (hn : nc < q) (cv : CV 1 cf nc) (cc : ∀ j, j < nc0 → cf j = cf0 j) (nn : nc0 ≤ nc) (h21 : hfi h 273 21 = nI (i + 1)) (G1 : hia h 298 (10 * i) = nI 0) (G2 : GSs (hia h 298) cf nc (10 * i) 1 vs) (G3 : ∀ x, (x < 10 * i ∨ 10 * i + 10 ≤ x) → hia h 298 x = hia h0 298 x) (w3 : Option Value) (lm : Nat × Nat) (Q : RT) (K : LnK h0 T cf0 nc0 i 2 1 q k vs Q) : WP cd_Mo_readOrder (callD (d + 9)) Q lm 125 [] [some (.ref 273), some (.int (nI 0)), some (.int (nI (10 * i))), w3] h := by
  have k8 := r.1.1.1
  have B := fun Q K0 K => m_readBehind d (10 * i + 3) q 5 (by omega) (by omega) r hk hn cv Q K0 K
  simp only [show ev (wds 5).reverse = 655 by decide] at B
  have es := pSm_s T 1 1 1 q k vs (by omega)
  simp (disch := omega) only [U_Mo_readOrder (cm _), SA, SB, SC1, SC2, SG, SV, k8, nI_add, eqI, true_implies, not_true_eq_false, not_false_eq_true, false_implies, true_and, and_true]
  refine B _ (fun c h' m e => ?_) (fun c => ?_)
  · rw [if_neg (by rw [c]; decide)] at es
    simp only [SV]
    exact m_ro139E (d + 7) (10 * i) (by omega) e _ _ lm Q (fun h2 m2 e2 => LnK_er K es h2 ((F0.trans m).trans m2) e2)
  · rw [if_pos c] at es
    cases hp : pCh T 1 40 2 0 (tBe T q) k with
    | error f =>
      rw [hp] at es
      intro h3 f3 e3
      simp only [SV]
      exact m_ro139E (d + 7) (10 * i) (by omega) e3 _ _ lm Q (fun h2 m2 e2 => LnK_er K es h2 ((F0.trans f3).trans m2) e2)
    | ok w =>
      obtain ⟨v, q1, k1⟩ := w
      rw [hp] at es
      intro h3 cf3 nc3 f3 r3 e21 cc3 sg cv3 n3 k3 e298
      have sl := sg.1
      simp only [SV]
      refine m_ro139L d i q1 hi (F0.trans f3) r3 k3 n3 cv3 (fun j hj => (cc3 j (by omega)).trans (cc j hj)) (by omega) (e21.trans h21) (by rw [e298, up1_n _ _ (by omega), up1_n _ _ (by omega)]; exact G1) (by rw [e298]; exact GSs_s (m := 1) (by omega) G2 cc3 sg) (fun x hx => by rw [e298, up1_n _ _ (by omega), up1_n _ _ (by omega)]; exact G3 x hx) _ _ lm Q (LnK_to K es)
theorem m_ro113L (d i q : Nat) (hi : i < 12) {h0 h : MH} (F0 : MTF h0 h) {T : TP} {cf : CFt} {nc k : Nat} (r : MRz h T 1 q cf nc k) (hk : k ≤ 50) (hn : nc < q) (cv : CV 1 cf nc) (h21 : hfi h 273 21 = nI (i + 1)) (G1 : hia h 298 (10 * i) = nI 0) (G3 : ∀ x, (x < 10 * i ∨ 10 * i + 10 ≤ x) → hia h 298 x = hia h0 298 x) (w3 : Option Value) (lm : Nat × Nat) (Q : RT) (K : LnK h0 T cf nc i 3 0 q k (fun _ => vZ) Q) : WP cd_Mo_readOrder (callD (d + 9)) Q lm 113 [] [some (.ref 273), some (.int (nI 0)), some (.int (nI (10 * i))), w3] h := by
  have k8 := r.1.1.1
  have es : pSm T 1 3 0 q k (fun _ => vZ) = (match pCh T 1 40 2 0 q k with
      | .error f => .error f
      | .ok (v, q2, k2) => pSm T 1 2 1 q2 k2 (up1 (fun _ => vZ) 0 v)) := by
    show (if (0 : Nat) = 0 ∨ _ then _ else _) = _
    rw [if_pos (Or.inl rfl)]
    rfl
  simp (disch := omega) only [UC_Mo_readOrder_125 (cm _), SA, SB, SC1, SC2, SG, SV, k8, eqI, nI_add, Nat.reduceEqDiff, Nat.zero_ne_one, true_implies, not_true_eq_false, not_false_eq_true, false_implies, true_and, and_true]
  refine m_readSum (d + 1) (10 * i + 1) q (by omega) r hk hn cv _ ?_
  cases hp : pCh T 1 40 2 0 q k with
  | error f =>
    rw [hp] at es
    intro h3 f3 e3
    simp only [SV]
    exact m_ro125E (d + 7) (10 * i) 0 (by omega) (by omega) e3 _ lm Q (fun h4 f4 e4 => LnK_er K es h4 ((F0.trans f3).trans f4) e4)
  | ok w =>
    obtain ⟨v, q1, k1⟩ := w
    rw [hp] at es
    intro h3 cf3 nc3 f3 r3 e21 cc3 sg cv3 n3 k3 e298
    have sl := sg.1
    simp only [SV]
    exact m_ro125L d i q1 hi (F0.trans f3) r3 k3 n3 cv3 cc3 (by omega) (e21.trans h21) (by rw [e298, up1_n _ _ (by omega), up1_n _ _ (by omega)]; exact G1) (by rw [e298]; exact GSs_s (m := 0) (g := hia h 298) (cf := cf) (by omega) (fun j hj => absurd hj (Nat.not_lt_zero j)) cc3 sg) (fun x hx => by rw [e298, up1_n _ _ (by omega), up1_n _ _ (by omega)]; exact G3 x hx) _ lm Q (LnK_to K es)
theorem m_l_ro85 (d b : Nat) (hb : b ≤ 110) (w1 : Int32) (Q : RT) (lm : Nat × Nat) : ∀ (m i : Nat) (h : MH), MoS h → i + m = 10 → WP cd_Mo_readOrder (callD d) Q lm 85 [] [some (.ref 273), some (.int w1), some (.int (nI b)), some (.int (nI i))] h = WP cd_Mo_readOrder (callD d) Q lm 106 [] [some (.ref 273), some (.int w1), some (.int (nI b)), some (.int (nI 10))] (sIA h 298 (fillF (hia h 298) (b + i) (b + 10) (nI 0)))
  | 0, i, h, s, e => by
    have ei : i = 10 := by omega
    subst ei
    rw [fill_0, U_Mo_readOrder_85 (cm _), sIA_self]
    simp (disch := omega) only [UC_Mo_readOrder_106 (cm _), SA, SB, SG, SV, leI, Nat.le_refl, true_implies, not_true_eq_false, not_false_eq_true, false_implies, true_and, and_true]
  | m + 1, i, h, s, e => by
    have ih := m_l_ro85 d b hb w1 Q lm m (i + 1) (sIA h 298 (up1 (hia h 298) (b + i) (nI 0))) s (by omega)
    rw [hia_s, show b + (i + 1) = b + i + 1 by omega, fill_s _ _ _ _ (by omega)] at ih
    obtain ⟨k8, m1, m2, m3, -⟩ := s.ord
    rw [U_Mo_readOrder_85 (cm _)]
    simp only [SK] at ih
    rw [← ih]
    simp (disch := omega) only [UC_Mo_readOrder_106 (cm _), SA, SB, SC1, SC2, SG, SK, SV, SM, k8, m1, m2, m3, leI, show ¬ 10 ≤ i by omega, nI_add, nI_clamp, in_eq, Nat.reduceLeDiff, true_implies, not_true_eq_false, not_false_eq_true, false_implies, true_and, and_true]
theorem m_ro113 (d i kd q : Nat) (hi : i < 12) (hkd1 : kd ≤ 2) {h0 h : MH} (F0 : MTF h0 h) {T : TP} {cf : CFt} {nc k : Nat} (r : MRz h T 1 q cf nc k) (hk : k ≤ 50) (hn : nc < q) (cv : CV 1 cf nc) (h21 : hfi h 273 21 = nI (i + 1)) (G1 : hia h 298 (10 * i) = nI kd) (G2 : ∀ x, 10 * i < x → x < 10 * i + 10 → hia h 298 x = nI 0) (G3 : ∀ x, (x < 10 * i ∨ 10 * i + 10 ≤ x) → hia h 298 x = hia h0 298 x) (w3 : Option Value) (lm : Nat × Nat) (Q : RT) (K : ClO h0 T cf nc i Q (match pSm T 1 (nSm 1 kd) 0 q k (fun _ => vZ) with
  | .error f => .error f
  | .ok (vs, q1, k1) => match pTm T 1 q1 with
    | .error f => .error f
    | .ok (n, q2) => match pTs T 1 q2 k1 with
      | .error f => .error f
      | .ok (t, q3, k3) => .ok ((kd, n, t, vs), q3, k3))) : WP cd_Mo_readOrder (callD (d + 9)) Q lm 113 [] [some (.ref 273), some (.int (nI kd)), some (.int (nI (10 * i))), w3] h := by
  rcases (show kd = 0 ∨ kd = 1 ∨ kd = 2 by omega) with rfl | rfl | rfl
  · exact m_ro113L d i q hi F0 r hk hn cv h21 G1 G3 w3 lm Q K
  · exact m_ro113_1 d i q hi F0 r hk hn cv h21 G1 G2 G3 w3 lm Q K
  · exact m_ro113_2 d i q hi F0 r hk hn cv h21 G1 G2 G3 w3 lm Q K
theorem m_readOrder (d i q : Nat) (hi : i ≤ 12) {h : MH} {T : TP} {cf : CFt} {nc k : Nat} (r : MRz h T 1 q cf nc k) (hd : HDM h) (hk : k ≤ 50) (hn : nc ≤ q) (cv : CV 1 cf nc) (h21 : hfi h 273 21 = nI i) (Q : RT) (K : ClO h T cf nc i Q (if i < 12 then pCl T 1 q k else .error (tAt T q))) : callD (d + 10) 237 [.ref 273] h Q := by
  obtain ⟨k8, m1, m2, m3, m4, m5, m6⟩ := r.2.1.1.ord
  have hq := r.1.2.2.1
  have W0 := fun Q => m_isWord (d + 8) q 0 (by omega) r.1 Q
  have W1 := fun Q => m_isWord (d + 8) q 1 (by omega) r.1 Q
  have W2 := fun Q => m_isWord (d + 8) q 2 (by omega) r.1 Q
  rw [← hd.2.1] at W0
  rw [← hd.2.2.1] at W1
  rw [← hd.2.2.2] at W2
  rw [E_Mo_readOrder]
  have H : ∀ lm, WP cd_Mo_readOrder (callD (d + 9)) Q lm 34 [] [some (.ref 273), some (.int (if hdA T 1 q = 99 then -1 else nI (hdA T 1 q))), some (.int (nI 3)), none] h := fun lm => by
    by_cases c : hdA T 1 q = 99 ∨ ¬ i < 12
    · have e : (if i < 12 then pCl T 1 q k else .error (tAt T q)) = .error (tAt T q) := by
        by_cases z : i < 12
        · rw [if_pos z]
          unfold pCl
          rcases c with c | c
          · rw [if_pos c]
          · exact absurd z c
        · rw [if_neg z]
      rw [e] at K
      have M0 := fun Q => m_must (d + 6) q false r.1 r.2.2.2.1 Q
      simp only [b2_f, Bool.false_eq_true, if_false] at M0
      obtain ⟨B1, B2⟩ := MRz_bd r
      have bk : hkd (bdH h) 273 = 8 := k8
      have bb : hfi (bdH h) 273 19 = nI 1 := B1.1
      have Y := K _ B2.T B1
      generalize bdH h = h1 at *
      by_cases z : hdA T 1 q = 99
      · rw [if_pos z]
        simp (disch := omega) only [U_Mo_readOrder (cm _), SA, SB, SC1, SC2, SG, SV, k8, M0, bk, bb, eqI, Nat.one_ne_zero, true_implies, not_true_eq_false, not_false_eq_true, false_implies, true_and, and_true]
        exact Y
      · rw [if_neg z]
        have ni := nI_ne1 (n := hdA T 1 q) (by have := (hdA_ok (by omega) z).1; omega)
        have i12 : i = 12 := by omega
        subst i12
        simp (disch := omega) only [U_Mo_readOrder (cm _), SA, SB, SC1, SC2, SG, SV, k8, M0, bk, bb, ni, h21, leI, eqI, Nat.le_refl, Nat.one_ne_zero, true_implies, not_true_eq_false, not_false_eq_true, false_implies, true_and, and_true]
        exact Y
    · have c1 : ¬ hdA T 1 q = 99 := fun z => c (Or.inl z)
      have c2 : i < 12 := Decidable.byContradiction (fun z => c (Or.inr z))
      rw [if_pos c2] at K
      unfold pCl at K
      rw [if_neg c1] at K ⊢
      obtain ⟨kd1, x, hx, cw⟩ := hdA_ok (by omega) c1
      obtain ⟨a1, a2⟩ := bW_adv hq (by omega) cw
      have ni := nI_ne1 (n := hdA T 1 q) (by omega)
      have M1 := fun Q => m_must (d + 6) q true r.1 r.2.2.2.1 Q
      simp only [b2_t, if_true] at M1
      obtain ⟨N1, N2⟩ := MRz_nx r
      have nk := N1.1.1.1
      have nb := N1.2.2.2.1
      obtain ⟨-, p1, p2, p3, -⟩ := N1.2.1.1.ord
      have n21 : hfi (nxH h T q) 273 21 = nI i := (MTF.f21 N2).trans h21
      have n298 : hia (nxH h T q) 298 = hia h 298 := N2.2.2.1 298 (by omega)
      have key : ∀ (G : Nat → Int32) w3 lm, G (10 * i) = nI (hdA T 1 q) → (∀ x, 10 * i < x → x < 10 * i + 10 → G x = nI 0) → (∀ x, (x < 10 * i ∨ 10 * i + 10 ≤ x) → G x = hia h 298 x) → WP cd_Mo_readOrder (callD (d + 9)) Q lm 113 [] [some (.ref 273), some (.int (nI (hdA T 1 q))), some (.int (nI (10 * i))), w3] (sIA (sFI (nxH h T q) 273 (up1 (hfi (nxH h T q) 273) 21 (nI (i + 1)))) 298 G) := fun G w3 lm g1 g2 g3 =>
        m_ro113 d i (hdA T 1 q) (tBe T q) c2 (by omega) ((N2.T.trans (MTF_21 _ _)).trans (MTF_c _ (Or.inr rfl) G)) (MRz_c (MRz_21 N1 _) (Or.inr rfl) G) hk (by omega) cv (by show hfi (sFI (nxH h T q) 273 (up1 (hfi (nxH h T q) 273) 21 (nI (i + 1)))) 273 21 = _; rw [hfi_s, up1_s]) (by rw [hia_s]; exact g1) (fun x z1 z2 => by rw [hia_s]; exact g2 x z1 z2) (fun x z => by rw [hia_s]; exact g3 x z) w3 lm Q K
      clear K
      generalize nxH h T q = h1 at *
      generalize hdA T 1 q = kd at *
      have le : ¬ 12 ≤ i := by omega
      have L := fun lm => m_l_ro85 (d + 9) (10 * i) (by omega) (nI kd) Q lm 10 0 (sFI h1 273 (up1 (hfi h1 273) 21 (nI (i + 1)))) N1.2.1.1 (by omega)
      simp only [Nat.add_zero] at L
      simp (disch := omega) only [UC_Mo_readOrder_113 (cm _), L, SA, SB, SC1, SC2, SG, SK, SV, SM, up1_s, k8, M1, ni, nk, nb, p1, p2, p3, n21, h21, le, leI, eqI, nI_add, pk_mul, nI_clamp, in_eq, Nat.reduceAdd, Nat.reduceLeDiff, Nat.add_zero, Nat.one_ne_zero, true_implies, not_true_eq_false, not_false_eq_true, false_implies, true_and, and_true]
      refine key _ _ _ ?_ (fun x h1 h2 => ?_) (fun x hx => ?_)
      · simp (disch := omega) only [up1_s, up1_n]
      · rw [up1_n _ _ (show ¬ x = 10 * i by omega)]
        exact fill_i ⟨by omega, by omega⟩
      · rw [up1_n _ _ (show ¬ x = 10 * i by omega), ← n298]
        exact fill_o (by omega)
  clear K
  unfold hdA at H
  simp only [Nat.one_ne_zero, if_false] at H
  have nw : ∀ a b, a < 3 → b < 3 → b ≠ a → bW T q a = true → bW T q b = false := fun a b ha hb hn h1 => by
    cases z : bW T q b with
    | false => rfl
    | true => exact absurd z (bW_no (by omega) (by omega) hn h1)
  cases c0 : bW T q 0 with
  | true =>
    have c1 := nw 0 1 (by omega) (by omega) (by omega) c0
    have c2 := nw 0 2 (by omega) (by omega) (by omega) c0
    rw [c0, b2_t] at W0
    rw [c1, b2_f] at W1
    rw [c2, b2_f] at W2
    simp only [c0, if_true, Nat.reduceEqDiff, if_false] at H
    simp (disch := omega) only [UC_Mo_readOrder_34 (cm _), U_Mo_readOrder_4 (cm _), SA, SB, SC1, SC2, SG, SV, k8, m4, m5, m6, W0, W1, W2, leI, eqI, nI_add, nI_clamp, in_eq, Nat.reduceAdd, Nat.reduceLeDiff, Nat.one_ne_zero, true_implies, not_true_eq_false, not_false_eq_true, false_implies, true_and, and_true]
    exact H _
  | false =>
    rw [c0, b2_f] at W0
    cases c1 : bW T q 1 with
    | true =>
      have c2 := nw 1 2 (by omega) (by omega) (by omega) c1
      rw [c1, b2_t] at W1
      rw [c2, b2_f] at W2
      simp only [c0, c1, if_true, Nat.reduceEqDiff, if_false, Bool.false_eq_true] at H
      simp (disch := omega) only [UC_Mo_readOrder_34 (cm _), U_Mo_readOrder_4 (cm _), SA, SB, SC1, SC2, SG, SV, k8, m4, m5, m6, W0, W1, W2, leI, eqI, nI_add, nI_clamp, in_eq, Nat.reduceAdd, Nat.reduceLeDiff, Nat.one_ne_zero, true_implies, not_true_eq_false, not_false_eq_true, false_implies, true_and, and_true]
      exact H _
    | false =>
      rw [c1, b2_f] at W1
      cases c2 : bW T q 2 with
      | true =>
        rw [c2, b2_t] at W2
        simp only [c0, c1, c2, if_true, Nat.reduceEqDiff, if_false, Bool.false_eq_true] at H
        simp (disch := omega) only [UC_Mo_readOrder_34 (cm _), U_Mo_readOrder_4 (cm _), SA, SB, SC1, SC2, SG, SV, k8, m4, m5, m6, W0, W1, W2, leI, eqI, nI_add, nI_clamp, in_eq, Nat.reduceAdd, Nat.reduceLeDiff, Nat.one_ne_zero, true_implies, not_true_eq_false, not_false_eq_true, false_implies, true_and, and_true]
        exact H _
      | false =>
        rw [c2, b2_f] at W2
        simp only [c0, c1, c2, if_true, Nat.reduceEqDiff, if_false, Bool.false_eq_true] at H
        simp (disch := omega) only [UC_Mo_readOrder_34 (cm _), U_Mo_readOrder_4 (cm _), SA, SB, SC1, SC2, SG, SV, k8, m4, m5, m6, W0, W1, W2, leI, eqI, nI_add, nI_clamp, in_eq, Nat.reduceAdd, Nat.reduceLeDiff, Nat.one_ne_zero, true_implies, not_true_eq_false, not_false_eq_true, false_implies, true_and, and_true]
        exact H _
