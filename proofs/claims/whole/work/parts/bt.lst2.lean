/-! ===== least: both loops ===== -/
def cN (p : RW) (r o : Nat) : Nat := nn (gC p r o)
theorem cN_e {p : RW} (iv : IV p) {r o : Nat} (hr : r < 7) (ho : o < 7) : gC p r o = nI (cN p r o) ∧ cN p r o ≤ 50 := by
  obtain ⟨x, h1, h2, -⟩ := iv.1.1.1 r o hr ho
  unfold cN
  rw [h2, nn_n (by omega)]
  exact ⟨rfl, h1⟩
def FW (f : Nat → Int32) (w : WY) : Prop := ∀ j, j < 7 → f j = nI (w j) ∧ w j ≤ 9999
theorem FW_rlx {f : Nat → Int32} {w : WY} {c : Nat → Nat → Nat} {r o : Nat} (ho : o < 7) (hr : r < 7) (F : FW f w) : FW (if 0 < c r o ∧ w o + c r o < w r then up1 f r (nI (w o + c r o)) else f) (rlx c w r o) := fun j hj => by
  unfold rlx
  split
  · next h =>
    by_cases e : j = r
    · subst e
      rw [up1_s, up1_s]
      exact ⟨rfl, by have := (F j hj).2; omega⟩
    · rw [up1_n _ _ e, up1_n _ _ e]; exact F j hj
  · exact F j hj
theorem x_l_sw (d r : Nat) (hr : r < 7) {h : MH} {p : RW} (s : XS h) (V : NeV h 26 p) (iv : IV p) (Q : RT) (lm : Nat × Nat) : ∀ (m k : Nat) (w : WY) (f : Nat → Int32) (w3 : Option Value), k + m = 7 → FW f w → (∀ f' w2 w3, FW f' (itr (fun w o => rlx (cN p) w r o) k m w) → WP cd_Di_shortenWays (callD d) Q lm 2 [] [some (.ref 24), some (.int (nI (r + 1))), w2, w3] (sIA h 241 f')) → WP cd_Di_shortenWays (callD d) Q lm 10 [] [some (.ref 24), some (.int (nI r)), some (.int (nI k)), w3] (sIA h 241 f)
  | 0, k, w, f, w3, e, F, K => by
    have Y := K f (some (.int (nI k))) w3 F
    rw [U_Di_shortenWays_10 (cm _)]
    simp (disch := omega) only [U_Di_shortenWays (cm _), SA, SB, SC1, SC2, SG, SK, SV, leI, show 7 ≤ k by omega, nI_add, true_or, or_true, true_implies, not_true_eq_false, not_false_eq_true, false_implies, true_and, and_true]
    exact Y
  | m + 1, k, w, f, w3, e, F, K => by
    have ih := fun f' w3 F' => x_l_sw d r hr s V iv Q lm m (k + 1) (rlx (cN p) w r k) f' w3 (by omega) F' K
    have so := (s).1
    unfold XSo at so
    have sw := WoS_25 (s)
    unfold WoS at sw
    simp only [Nat.reduceAdd] at sw
    obtain ⟨sh, -⟩ := (s.2.2.2.2.2.1.1).all
    simp only [Nat.reduceAdd] at sh
    obtain ⟨ce, c50⟩ := cN_e iv hr (o := k) (by omega)
    have a1 : hia h 27 (r * 7 + k) = nI (cN p r k) := (V.1 r k hr (by omega)).trans ce
    have fk := F k (by omega)
    have fr := F r hr
    have F' := FW_rlx (c := cN p) (r := r) (o := k) (by omega) hr F
    rw [U_Di_shortenWays_10 (cm _)]
    by_cases c1 : cN p r k ≤ 0
    · rw [if_neg (by omega)] at F'
      have Y := ih f (some (.int (nI (cN p r k)))) F'
      simp (disch := omega) only [U_Di_shortenWays (cm _), SA, SB, SC1, SC2, SG, SK, SV, so, sw, sh, up1_s, up1_n, a1, leI, c1, show ¬ 7 ≤ k by omega, pk_mul, nI_add, nI_clamp, in_eq, Nat.reduceLeDiff, true_or, or_true, true_implies, not_true_eq_false, not_false_eq_true, false_implies, true_and, and_true]
      exact Y
    · by_cases c2 : w k + cN p r k < w r
      · rw [if_pos ⟨by omega, c2⟩] at F'
        have Y := ih _ (some (.int (nI (cN p r k)))) F'
        simp (disch := omega) only [U_Di_shortenWays (cm _), SA, SB, SC1, SC2, SG, SK, SV, so, sw, sh, up1_s, up1_n, a1, fk.1, fr.1, leI, c1, show ¬ w r ≤ w k + cN p r k by omega, show ¬ 7 ≤ k by omega, pk_mul, nI_add, nI_clamp, in_eq, Nat.reduceLeDiff, true_or, or_true, true_implies, not_true_eq_false, not_false_eq_true, false_implies, true_and, and_true]
        exact Y
      · rw [if_neg (fun z => c2 z.2)] at F'
        have Y := ih f (some (.int (nI (cN p r k)))) F'
        simp (disch := omega) only [U_Di_shortenWays (cm _), SA, SB, SC1, SC2, SG, SK, SV, so, sw, sh, up1_s, up1_n, a1, fk.1, fr.1, leI, c1, show w r ≤ w k + cN p r k by omega, show ¬ 7 ≤ k by omega, pk_mul, nI_add, nI_clamp, in_eq, Nat.reduceLeDiff, true_or, or_true, true_implies, not_true_eq_false, not_false_eq_true, false_implies, true_and, and_true]
        exact Y
theorem x_l_sw2 (d : Nat) {h : MH} {p : RW} (s : XS h) (V : NeV h 26 p) (iv : IV p) (Q : RT) (lm : Nat × Nat) : ∀ (m k : Nat) (w : WY) (f : Nat → Int32) (w2 w3 : Option Value), k + m = 7 → FW f w → (∀ f', FW f' (itr (fun w r => rnd1 (cN p) w r) k m w) → Q none (sIA h 241 f')) → WP cd_Di_shortenWays (callD d) Q lm 2 [] [some (.ref 24), some (.int (nI k)), w2, w3] (sIA h 241 f)
  | 0, k, w, f, w2, w3, e, F, K => by
    rw [U_Di_shortenWays_2 (cm _)]
    simp (disch := omega) only [U_Di_shortenWays (cm _), SA, SB, SC1, SC2, SG, SK, SV, leI, show 7 ≤ k by omega, true_or, or_true, true_implies, not_true_eq_false, not_false_eq_true, false_implies, true_and, and_true]
    exact K f F
  | m + 1, k, w, f, w2, w3, e, F, K => by
    rw [U_Di_shortenWays_2 (cm _)]
    simp (disch := omega) only [U_Di_shortenWays (cm _), SA, SB, SC1, SC2, SG, SK, SV, leI, show ¬ 7 ≤ k by omega, true_or, or_true, true_implies, not_true_eq_false, not_false_eq_true, false_implies, true_and, and_true]
    exact x_l_sw d k (by omega) s V iv Q lm 7 0 w f w3 (by omega) F (fun f' w2 w3 F' => x_l_sw2 d s V iv Q lm m (k + 1) (rnd1 (cN p) w k) f' w2 w3 (by omega) F' K)
theorem x_shorten (d : Nat) {h : MH} {p : RW} (s : XS h) (V : NeV h 26 p) (iv : IV p) {w : WY} {f : Nat → Int32} (F : FW f w) (Q : RT) (K : ∀ f', FW f' (rnd (cN p) w) → Q none (sIA h 241 f')) : callD (d + 1) 124 [.ref 24] (sIA h 241 f) Q := by
  rw [E_Di_shortenWays]
  simp only [U_Di_shortenWays (cm _), SA, SB, SG, SV]
  exact x_l_sw2 d s V iv Q _ 7 0 w f none none (by omega) F K
theorem x_l_fill (d a n : Nat) (v : Int32) (hn : n < 2 ^ 31) (h24 : 24 ≤ a) {h : MH} (ka : hkd h a = 20) (la : hln h a = n) (Q : RT) (lm : Nat × Nat) : ∀ (m k : Nat) (f : Nat → Int32), k + m = n → (∀ f', (∀ j, f' j = if k ≤ j ∧ j < n then v else f j) → Q none (sIA h a f')) → WP cd_J_fillI (callD d) Q lm 5 [] [some (.ref a), some (.int v), some (.int (nI k)), some (.int (nI n))] (sIA h a f)
  | 0, k, f, e, K => by
    rw [U_J_fillI_5 (cm _)]
    simp (disch := omega) only [U_J_fillI (cm _), SA, SB, SC1, SC2, SG, SK, SV, leI, show n ≤ k by omega, true_or, or_true, true_implies, not_true_eq_false, not_false_eq_true, false_implies, true_and, and_true]
    exact K f (fun j => by rw [if_neg (by omega)])
  | m + 1, k, f, e, K => by
    have ih := x_l_fill d a n v hn h24 ka la Q lm m (k + 1) (up1 f k v) (by omega) (fun f' hf => K f' (fun j => by
      rw [hf j]
      by_cases c : j = k
      · subst c; rw [if_neg (by omega), if_pos (by omega), up1_s]
      · by_cases c2 : k + 1 ≤ j ∧ j < n
        · rw [if_pos c2, if_pos (by omega)]
        · rw [if_neg c2, if_neg (by omega), up1_n _ _ c]))
    rw [U_J_fillI_5 (cm _)]
    simp (disch := omega) only [U_J_fillI (cm _), SA, SB, SC1, SC2, SG, SK, SV, ka, la, h24, up1_s, leI, show ¬ n ≤ k by omega, nI_add, nI_clamp, in_eq, true_or, or_true, true_implies, not_true_eq_false, not_false_eq_true, false_implies, true_and, and_true]
    exact ih
theorem x_fillI (d a n : Nat) (v : Int32) (hn : n < 2 ^ 31) (h24 : 24 ≤ a) {h : MH} (ka : hkd h a = 20) (la : hln h a = n) (Q : RT) (K : ∀ f', (∀ j, f' j = if j < n then v else hia h a j) → Q none (sIA h a f')) : callD (d + 1) 254 [.ref a, .int v] h Q := by
  have L := x_l_fill d a n v hn h24 ka la Q (hcc h, hcu h) n 0 (hia h a) (by omega) (fun f' hf => K f' (fun j => by
    rw [hf j]
    by_cases c : j < n
    · rw [if_pos ⟨by omega, c⟩, if_pos c]
    · rw [if_neg (fun z => c z.2), if_neg c]))
  rw [sIA_id] at L
  rw [E_J_fillI]
  simp (disch := omega) only [U_J_fillI (cm _), SA, SB, SC1, SC2, SG, SK, SV, ka, la, Nat.le_refl, Nat.reduceLeDiff, true_or, or_true, true_implies, not_true_eq_false, not_false_eq_true, false_implies, true_and, and_true]
  exact L
def w0N : WY := fun j => if j = 0 then 0 else 9999
theorem w0_I (c : Nat → Nat → Nat) : wI c w0N := ⟨rfl, fun r hr => by
  unfold w0N
  by_cases e : r = 0
  · rw [if_pos e]; exact ⟨by omega, fun z => absurd e z⟩
  · rw [if_neg e]; exact ⟨by omega, fun _ => Or.inl rfl⟩⟩
theorem x_l_lst (d : Nat) (r : Nat) (hr : r < 7) {h : MH} {p : RW} (s : XS h) (V : NeV h 26 p) (iv : IV p) (Q : RT) (lm : Nat × Nat) : ∀ (m k : Nat) (f : Nat → Int32), k + m = 6 → FW f (rK (cN p) w0N k) → (∀ f', FW f' (rK (cN p) w0N 6) → Q (some (.int (nI (rK (cN p) w0N 6 r)))) (sIA h 241 f')) → WP cd_Di_least (callD (d + 1)) Q lm 28 [] [some (.ref 24), some (.int (nI r)), some (.int (nI (k + 1)))] (sIA h 241 f)
  | 0, k, f, e, F, K => by
    obtain rfl : k = 6 := by omega
    have so := (s).1
    unfold XSo at so
    have fr := (F r hr).1
    have Y := K f F
    rw [U_Di_least_28 (cm _)]
    simp (disch := omega) only [U_Di_least (cm _), SA, SB, SC1, SC2, SG, SK, SV, so, up1_s, fr, leI, Nat.reduceAdd, Nat.le_refl, nI_clamp, in_eq, Nat.reduceLeDiff, true_or, or_true, true_implies, not_true_eq_false, not_false_eq_true, false_implies, true_and, and_true]
    exact Y
  | m + 1, k, f, e, F, K => by
    have k7 := s.1.1
    rw [U_Di_least_28 (cm _)]
    simp (disch := omega) only [U_Di_least (cm _), SA, SB, SC1, SC2, SG, SK, SV, k7, leI, show ¬ 7 ≤ k + 1 by omega, true_or, or_true, true_implies, not_true_eq_false, not_false_eq_true, false_implies, true_and, and_true]
    refine x_shorten d s V iv F _ (fun f' F' => ?_)
    have ih := x_l_lst d r hr s V iv Q lm m (k + 1) f' (by omega) F' K
    simp (disch := omega) only [U_Di_least (cm _), SA, SB, SC1, SC2, SG, SK, SV, nI_add, true_or, or_true, true_implies, not_true_eq_false, not_false_eq_true, false_implies, true_and, and_true]
    exact ih
theorem m_l_li (d r : Nat) {h : MH} (hM : MoS h) (rI : Int32) (Q : RT) (lm : Nat × Nat) (w3 w4 w5 : Option Value) : ∀ (m k : Nat) (f : Nat → Int32), k + m = 7 → (∀ f', (∀ j, k ≤ j → j < 7 → f' j = nI (w0N j)) → (∀ j, j < k → f' j = f j) → WP cd_Mo_least (callD d) Q lm 47 [] [some (.ref 273), some (.int rI), some (.int (nI 0)), w3, w4, w5] (sIA h 294 f')) → WP cd_Mo_least (callD d) Q lm 16 [] [some (.ref 273), some (.int rI), some (.int (nI k)), w3, w4, w5] (sIA h 294 f)
  | 0, k, f, e, K => by
    have Y := K f (fun j h1 h2 => by omega) (fun j _ => rfl)
    rw [U_Mo_least_16 (cm _)]
    simp (disch := omega) only [U_Mo_least (cm _), SA, SB, SC1, SC2, SG, SK, SV, leI, show 7 ≤ k by omega, true_or, or_true, true_implies, not_true_eq_false, not_false_eq_true, false_implies, true_and, and_true]
    exact Y
  | m + 1, k, f, e, K => by
    have k8 := hM.1
    obtain ⟨s1, s2, s3⟩ := hM.a294
    have ih := m_l_li d r hM rI Q lm w3 w4 w5 m (k + 1) (up1 f k (nI (w0N k))) (by omega) (fun f' h1 h2 => K f' (fun j j1 j2 => by
      by_cases e : j = k
      · subst e; rw [h2 j (by omega), up1_s]
      · exact h1 j (by omega) j2) (fun j hj => by rw [h2 j (by omega), up1_n _ _ (by omega)]))
    rw [U_Mo_least_16 (cm _)]
    unfold w0N at ih
    by_cases c : k = 0
    · rw [if_pos c] at ih
      simp (disch := omega) only [U_Mo_least (cm _), SA, SB, SC1, SC2, SG, SK, SV, k8, s1, s2, s3, up1_s, leI, eqI, c, show ¬ 7 ≤ k by omega, nI_add, nI_clamp, in_eq, Nat.reduceLeDiff, Nat.le_zero_eq, Nat.reduceEqDiff, Nat.zero_add, true_or, or_true, true_implies, not_true_eq_false, not_false_eq_true, false_implies, true_and, and_true]
      subst c
      exact ih
    · rw [if_neg c] at ih
      simp (disch := omega) only [U_Mo_least (cm _), SA, SB, SC1, SC2, SG, SK, SV, k8, s1, s2, s3, up1_s, leI, eqI, c, show ¬ 7 ≤ k by omega, nI_add, nI_clamp, in_eq, Nat.reduceLeDiff, true_or, or_true, true_implies, not_true_eq_false, not_false_eq_true, false_implies, true_and, and_true]
      exact ih
theorem m_l_lo (d r a : Nat) (hr : r < 7) {h : MH} {p : RW} (hM : MoS h) (hp : hia h 275 = p) (iv : IV p) (rI : Int32) (Q : RT) (lm : Nat × Nat) : ∀ (m k : Nat) (w : WY) (f : Nat → Int32) (w5 : Option Value), k + m = 7 → FW f w → (∀ f' w4 w5, FW f' (itr (fun w o => rlx (cN p) w r o) k m w) → WP cd_Mo_least (callD (d + 1)) Q lm 55 [] [some (.ref 273), some (.int rI), some (.int (nI a)), some (.int (nI (r + 1))), w4, w5] (sIA h 294 f')) → WP cd_Mo_least (callD (d + 1)) Q lm 64 [] [some (.ref 273), some (.int rI), some (.int (nI a)), some (.int (nI r)), some (.int (nI k)), w5] (sIA h 294 f)
  | 0, k, w, f, w5, e, F, K => by
    have Y := K f (some (.int (nI k))) w5 F
    rw [U_Mo_least_64 (cm _)]
    simp (disch := omega) only [U_Mo_least (cm _), SA, SB, SC1, SC2, SG, SK, SV, leI, show 7 ≤ k by omega, nI_add, true_or, or_true, true_implies, not_true_eq_false, not_false_eq_true, false_implies, true_and, and_true]
    exact Y
  | m + 1, k, w, f, w5, e, F, K => by
    have k8 := hM.1
    obtain ⟨s1, s2, s3⟩ := hM.a294
    have ih := fun f' w5 F' => m_l_lo d r a hr hM hp iv rI Q lm m (k + 1) (rlx (cN p) w r k) f' w5 (by omega) F' K
    obtain ⟨ce, c50⟩ := cN_e iv hr (o := k) (by omega)
    have CO := fun f Q => e_cost d r k hr (by omega) (h := sIA h 294 f) ((she_ia h 294 f).1.2.2.2.M hM) Q
    have cv : ∀ f : Nat → Int32, gC (hia (sIA h 294 f) 275) r k = nI (cN p r k) := fun f => by rw [hia_n _ _ (by omega), hp]; exact ce
    simp only [cv] at CO
    have fk := F k (by omega)
    have fr := F r hr
    have F' := FW_rlx (c := cN p) (r := r) (o := k) (by omega) hr F
    rw [U_Mo_least_64 (cm _)]
    by_cases c1 : cN p r k ≤ 0
    · rw [if_neg (by omega)] at F'
      have Y := ih f (some (.int (nI (cN p r k + w k)))) F'
      have e1 : up1 f r (nI (w r)) = f := by rw [← fr.1]; exact up1_id f r
      simp (disch := omega) only [U_Mo_least (cm _), SA, SB, SC1, SC2, SG, SK, SV, k8, s1, s2, s3, up1_s, CO, fk.1, fr.1, e1, leI, c1, show ¬ 7 ≤ k by omega, nI_add, nI_clamp, in_eq, Nat.reduceLeDiff, true_or, or_true, true_implies, not_true_eq_false, not_false_eq_true, false_implies, true_and, and_true]
      exact Y
    · by_cases c2 : w k + cN p r k < w r
      · rw [if_pos ⟨by omega, c2⟩, Nat.add_comm] at F'
        have Y := ih _ (some (.int (nI (cN p r k + w k)))) F'
        simp (disch := omega) only [U_Mo_least (cm _), SA, SB, SC1, SC2, SG, SK, SV, k8, s1, s2, s3, up1_s, CO, fk.1, fr.1, leI, c1, show ¬ w r ≤ cN p r k + w k by omega, show ¬ 7 ≤ k by omega, nI_add, nI_clamp, in_eq, Nat.reduceLeDiff, true_or, or_true, true_implies, not_true_eq_false, not_false_eq_true, false_implies, true_and, and_true]
        exact Y
      · rw [if_neg (fun z => c2 z.2)] at F'
        have Y := ih f (some (.int (nI (cN p r k + w k)))) F'
        have e1 : up1 f r (nI (w r)) = f := by rw [← fr.1]; exact up1_id f r
        simp (disch := omega) only [U_Mo_least (cm _), SA, SB, SC1, SC2, SG, SK, SV, k8, s1, s2, s3, up1_s, CO, fk.1, fr.1, e1, leI, c1, show w r ≤ cN p r k + w k by omega, show ¬ 7 ≤ k by omega, nI_add, nI_clamp, in_eq, Nat.reduceLeDiff, true_or, or_true, true_implies, not_true_eq_false, not_false_eq_true, false_implies, true_and, and_true]
        exact Y
theorem m_l_lr (d a : Nat) {h : MH} {p : RW} (hM : MoS h) (hp : hia h 275 = p) (iv : IV p) (rI : Int32) (Q : RT) (lm : Nat × Nat) : ∀ (m k : Nat) (w : WY) (f : Nat → Int32) (w4 w5 : Option Value), k + m = 7 → FW f w → (∀ f' w3 w4 w5, FW f' (itr (fun w r => rnd1 (cN p) w r) k m w) → WP cd_Mo_least (callD (d + 1)) Q lm 47 [] [some (.ref 273), some (.int rI), some (.int (nI (a + 1))), w3, w4, w5] (sIA h 294 f')) → WP cd_Mo_least (callD (d + 1)) Q lm 55 [] [some (.ref 273), some (.int rI), some (.int (nI a)), some (.int (nI k)), w4, w5] (sIA h 294 f)
  | 0, k, w, f, w4, w5, e, F, K => by
    have Y := K f (some (.int (nI k))) w4 w5 F
    rw [U_Mo_least_55 (cm _)]
    simp (disch := omega) only [U_Mo_least (cm _), SA, SB, SC1, SC2, SG, SK, SV, leI, show 7 ≤ k by omega, nI_add, true_or, or_true, true_implies, not_true_eq_false, not_false_eq_true, false_implies, true_and, and_true]
    exact Y
  | m + 1, k, w, f, w4, w5, e, F, K => by
    rw [U_Mo_least_55 (cm _)]
    simp (disch := omega) only [U_Mo_least (cm _), SA, SB, SC1, SC2, SG, SK, SV, leI, show ¬ 7 ≤ k by omega, true_or, or_true, true_implies, not_true_eq_false, not_false_eq_true, false_implies, true_and, and_true]
    exact m_l_lo d k a (by omega) hM hp iv rI Q lm 7 0 w f w5 (by omega) F (fun f' w4 w5 F' => m_l_lr d a hM hp iv rI Q lm m (k + 1) (rnd1 (cN p) w k) f' w4 w5 (by omega) F' K)
theorem m_l_lk7 (d r : Nat) (hr : r < 7) {h : MH} {p : RW} (hM : MoS h) (hp : hia h 275 = p) (iv : IV p) (Q : RT) (lm : Nat × Nat) : ∀ (m k : Nat) (f : Nat → Int32) (w3 w4 w5 : Option Value), k + m = 7 → FW f (rK (cN p) w0N k) → (∀ f', Q (some (.int (nI (rK (cN p) w0N 7 r)))) (sIA h 294 f')) → WP cd_Mo_least (callD (d + 1)) Q lm 47 [] [some (.ref 273), some (.int (nI r)), some (.int (nI k)), w3, w4, w5] (sIA h 294 f)
  | 0, k, f, w3, w4, w5, e, F, K => by
    obtain rfl : k = 7 := by omega
    have k8 := hM.1
    obtain ⟨s1, s2, s3⟩ := hM.a294
    have fr := (F r hr).1
    have Y := K f
    rw [U_Mo_least_47 (cm _)]
    simp (disch := omega) only [U_Mo_least (cm _), SA, SB, SC1, SC2, SG, SK, SV, k8, s1, s2, s3, up1_s, fr, leI, Nat.le_refl, nI_clamp, in_eq, Nat.reduceLeDiff, true_or, or_true, true_implies, not_true_eq_false, not_false_eq_true, false_implies, true_and, and_true]
    exact Y
  | m + 1, k, f, w3, w4, w5, e, F, K => by
    rw [U_Mo_least_47 (cm _)]
    simp (disch := omega) only [U_Mo_least (cm _), SA, SB, SC1, SC2, SG, SK, SV, leI, show ¬ 7 ≤ k by omega, true_or, or_true, true_implies, not_true_eq_false, not_false_eq_true, false_implies, true_and, and_true]
    exact m_l_lr d k hM hp iv (nI r) Q lm 7 0 (rK (cN p) w0N k) f w4 w5 (by omega) F (fun f' w3 w4 w5 F' => m_l_lk7 d r hr hM hp iv Q lm m (k + 1) f' w3 w4 w5 (by omega) F' K)
theorem KP_ia (h : MH) {a : Nat} (f : Nat → Int32) (ha : scr a) (h278 : a ≠ 278) : KP h (sIA h a f) := ⟨(she_ia h a f).1, fun _ _ _ _ _ _ => rfl, ⟨rfl, rfl⟩, fun _ _ => rfl, fun b hb => hia_n _ _ (fun e => hb (by rw [e]; exact ha)), fun _ _ => rfl, fun x _ => by rw [hia_n _ _ (fun e => h278 e.symm)]⟩
theorem op_least (r : Int32) : PairOp 3 98 222 [.int r] := PairK (fun d h g => by
  obtain ⟨V, iv, -⟩ := g.2.2.2.1
  have so := (g.1).1
  unfold XSo at so
  have IX := fun h Q => xd_isRouter (d + 1) r h Q
  have IM := fun h Q => e_isRouter d r h Q
  by_cases c1 : isR r
  · obtain ⟨r', hr, rfl⟩ := rg_n (by omega) c1
    rw [b01_t c1] at IX IM
    refine ⟨.int (nI (rK (cN (hia h 275)) w0N 6 r')), fun Q K => ?_, fun h1 kp g1 Q K => ?_⟩
    · rw [E_Di_least]
      simp (disch := omega) only [U_Di_least (cm _), SA, SB, SC1, SC2, SG, SK, SV, so, IX, eqI, Nat.one_ne_zero, true_or, or_true, true_implies, not_true_eq_false, not_false_eq_true, false_implies, true_and, and_true]
      refine x_fillI (d + 1) 241 7 (nI 9999) (by omega) (by omega) so.2.2.2.2.2.2.2.2.2.2.2.2.1 so.2.2.2.2.2.2.2.2.2.2.2.2.2.1 _ (fun f' hf => ?_)
      have F0 : FW (up1 f' 0 (nI 0)) (rK (cN (hia h 275)) w0N 0) := fun j hj => by
        show up1 f' 0 (nI 0) j = nI (w0N j) ∧ w0N j ≤ 9999
        unfold w0N
        by_cases e : j = 0
        · subst e; rw [up1_s, if_pos rfl]; exact ⟨rfl, by omega⟩
        · rw [up1_n _ _ e, if_neg e, hf j, if_pos hj]; exact ⟨rfl, by omega⟩
      have L := fun lm => x_l_lst (d + 1) r' (by omega) g.1 V iv Q lm 6 0 _ (by omega) F0 (fun f' F' => K _ (KP_ia h f' (by unfold scr; omega) (by omega)))
      simp (disch := omega) only [U_Di_least (cm _), SA, SB, SC1, SC2, SG, SK, SV, so, up1_s, nI_clamp, in_eq, Nat.reduceLeDiff, true_or, or_true, true_implies, not_true_eq_false, not_false_eq_true, false_implies, true_and, and_true]
      exact L _
    · have e1 : hia h1 275 = hia h 275 := kp.2.2.2.2.1 275 (scr_n (by omega))
      obtain ⟨hM2, ei2, -, kp2⟩ := thM g1.2.1.1
      have k8 := g1.2.1.1.1
      have KK : ∀ f', KP h1 (sIA (thH h1) 294 f') := fun f' => kp2.trans (KP_ia _ f' (by unfold scr; omega) (by omega))
      generalize hh : thH h1 = h2 at *
      unfold thH at hh
      rw [← six (w0_I _)] at K
      have L := fun lm w3 w4 w5 => m_l_li (d + 2) r' hM2 (nI r') Q lm w3 w4 w5 7 0 (hia h2 294) (by omega) (fun f' h1 _ => m_l_lk7 (d + 1) r' (by omega) hM2 (by rw [ei2, e1]) iv Q lm 7 0 f' w3 w4 w5 (by omega) (fun j hj => ⟨h1 j (by omega) hj, (((w0_I (cN (hia h 275))).2 j hj).1)⟩) (fun f' => K _ (KK f')))
      rw [sIA_id] at L
      rw [E_Mo_least]
      simp (disch := omega) only [U_Mo_least (cm _), SA, SB, SC1, SC2, SG, SK, SV, hh, k8, IM, eqI, Nat.one_ne_zero, true_or, or_true, true_implies, not_true_eq_false, not_false_eq_true, false_implies, true_and, and_true]
      exact L _ _ _ _
  · rw [b01_f c1] at IX IM
    refine ⟨.int (-1), fun Q K => ?_, fun h1 kp g1 Q K => ?_⟩
    · have Y := K h (KP.refl h)
      rw [E_Di_least]
      simp (disch := omega) only [U_Di_least (cm _), SA, SB, SC1, SC2, SG, SK, SV, IX, eqI, true_or, or_true, true_implies, not_true_eq_false, not_false_eq_true, false_implies, true_and, and_true]
      exact Y
    · obtain ⟨hM2, ei2, -, kp2⟩ := thM g1.2.1.1
      have k8 := g1.2.1.1.1
      have Y := K _ kp2
      generalize hh : thH h1 = h2 at *
      unfold thH at hh
      rw [E_Mo_least]
      simp (disch := omega) only [U_Mo_least (cm _), SA, SB, SC1, SC2, SG, SK, SV, hh, k8, IM, eqI, true_or, or_true, true_implies, not_true_eq_false, not_false_eq_true, false_implies, true_and, and_true]
      exact Y)
