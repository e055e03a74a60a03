/-! ===== the program's net: sends ===== -/
theorem pk_send {p : RW} {k f t : Int32} {r i : Nat} (hi : i < ql p) : pk (mSend p k f t r) i = pk p i := by
  unfold pk mSend
  rw [up1_n _ _ (by omega), up1_n _ _ (by omega), up1_n _ _ (by omega), up1_n _ _ (by omega), up1_n _ _ (by omega), up1_n _ _ (by omega), up1_n _ _ (by omega), up1_n _ _ (by omega), up1_n _ _ (by omega), up1_n _ _ (by omega), up1_n _ _ (by omega), up1_n _ _ (by omega), up1_n _ _ (by omega), up1_n _ _ (by omega), up1_n _ _ (by omega), up1_n _ _ (by omega), up1_n _ _ (by omega), up1_n _ _ (by omega), up1_n _ _ (by omega), up1_n _ _ (by omega)]
theorem pk_send0 {p : RW} {k f t : Int32} {r : Nat} : pk (mSend p k f t r) (ql p) = pkm k f t (gR p r 0) := by
  unfold pk mSend
  simp (disch := omega) only [up1_s, up1_n]
theorem ql_send {p : RW} {k f t : Int32} {r : Nat} (h : ql p < 5000) : ql (mSend p k f t r) = ql p + 1 := ql_of mSend_6 (by omega)
theorem gR_send {p : RW} {k f t : Int32} {r s j : Nat} (hs : s < 7) (hj : j < 7) : gR (mSend p k f t r) s j = gR p s j := mSend_lo (by omega) (by omega)
theorem gC_send {p : RW} {k f t : Int32} {r s j : Nat} (hs : s < 7) (hj : j < 7) : gC (mSend p k f t r) s j = gC p s j := mSend_lo (by omega) (by omega)
theorem gT_send {p : RW} {k f t : Int32} {r s j : Nat} (hs : s < 7) (hj : j < 7) : gT (mSend p k f t r) s j = gT p s j := mSend_lo (by omega) (by omega)
theorem bits7_c {x : Int32} {p q : RW} {j : Nat} (h : ∀ r, r < 7 → gR q r j = gR p r j) (b : bits7 x p j) : bits7 x q j := by
  obtain ⟨m, m1, m2, m3⟩ := b
  exact ⟨m, m1, m2, fun r hr => (m3 r hr).trans (h r hr).symm⟩
theorem NeV.snd {h : MH} {n : Nat} {p : RW} (V : NeV h n p) (hq : QL p 4000) {r : Nat} (hr : r < 7) (k f t : Int32) : NeV (sFI (sIA h (n + 9) (up1 (hia h (n + 9)) (ql p) (pkm k f t (gR p r 0)))) n (up1 (hfi h n) 9 (nI (ql p + 1)))) n (mSend p k f t r) := by
  obtain ⟨v1, v2, v3, v4, v5, v6, v7, v8, v9, v10, v11, v12, v13⟩ := V
  have hql := hq.2
  refine ⟨fun r2 o2 h1 h2 => ?_, fun r2 o2 h1 h2 => ?_, fun r2 h1 => ?_, fun r2 h1 => ?_, fun r2 h1 => ?_, fun r2 h1 => ?_, fun r2 h1 => ?_, fun r2 h1 => ?_, fun i hi => ?_, ?_, ?_, ?_, ?_⟩
  · rw [gC_send h1 h2]; simp (disch := omega) only [SG, up1_n]; exact v1 r2 o2 h1 h2
  · rw [gT_send h1 h2]; simp (disch := omega) only [SG, up1_n]; exact v2 r2 o2 h1 h2
  · rw [mNb_c (fun o ho => gC_send h1 ho)]; simp (disch := omega) only [SG, up1_n]; exact v3 r2 h1
  · rw [gR_send h1 (by omega)]; simp (disch := omega) only [SG, up1_n]; exact v4 r2 h1
  · rw [gR_send h1 (by omega)]; simp (disch := omega) only [SG, up1_n]; exact v5 r2 h1
  · rw [gR_send h1 (by omega)]; simp (disch := omega) only [SG, up1_n]; exact v6 r2 h1
  · rw [gR_send h1 (by omega)]; simp (disch := omega) only [SG, up1_n]; exact v7 r2 h1
  · rw [gR_send h1 (by omega)]; simp (disch := omega) only [SG, up1_n]; exact v8 r2 h1
  · rw [ql_send (by omega)] at hi
    simp only [SG, up1_s]
    by_cases e : i = ql p
    · subst e; rw [up1_s, pk_send0]
    · rw [up1_n _ _ e, pk_send (by omega)]; exact v9 i (by omega)
  · rw [hfi_s, up1_s, mSend_6]
  · rw [hfi_s, up1_n _ _ (by omega)]; exact bits7_c (fun r hr => gR_send hr (by omega)) v11
  · rw [hfi_s, up1_n _ _ (by omega)]; exact bits7_c (fun r hr => gR_send hr (by omega)) v12
  · rw [hfi_s, up1_n _ _ (by omega), mSend_lo (by omega) (by omega)]; exact v13
theorem x_l_sends (d n r : Nat) (hr : r < 7) (kd set : Int32) (Q : RT) (lm : Nat × Nat) : ∀ (m k : Nat) (h : MH) (p : RW), NeS h n → NeV h n p → p 6 = nI (ql p) → itr (fun n o => if bt set o = nI 1 then n + 1 else n) k m (ql p) ≤ 420 → k + m = 7 → (∀ h', NF n h h' → NeV h' n (itr (fun p o => if bt set o = nI 1 then mSend p kd (nI r) (nI o) r else p) k m p) → Q none h') → WP cd_Ne_sends (callD d) Q lm 3 [] [some (.ref n), some (.int kd), some (.int (nI r)), some (.int set), some (.int (nI k))] h
  | 0, k, h, p, hS, hV, hQ, hB, hk, kk => by
    obtain rfl : k = 7 := by omega
    rw [U_Ne_sends_3 (cm _)]
    simp (disch := omega) only [U_Ne_sends (cm _), SA, SB, SG, SV, leI, Nat.le_refl, true_implies, not_true_eq_false, false_implies, and_true]
    exact kk h (NF.refl n h) hV
  | m + 1, k, h, p, hS, hV, hQ, hB, hk, kk => by
    obtain ⟨sh, h24⟩ := hS.all
    have hk7 : ¬ 7 ≤ k := by omega
    rw [itr_s] at kk
    rw [U_Ne_sends_3 (cm _)]
    have e9 : hfi h n 9 = nI (ql p) := hV.2.2.2.2.2.2.2.2.2.1.trans hQ
    have e4 := hV.2.2.2.1 r hr
    rw [itr_s] at hB
    have n9 : 24 ≤ n + 9 := by omega
    by_cases c : bt set k = nI 1
    · rw [if_pos c] at kk hB
      have hfull : ¬ 420 ≤ ql p := by rw [cnt_add] at hB; omega
      have ih := x_l_sends d n r hr kd set Q lm m (k + 1) _ _ ((NF.f (n := n) (sIA h (n + 9) (up1 (hia h (n + 9)) (ql p) (pkm kd (nI r) (nI k) (gR p r 0)))) (up1 (hfi h n) 9 (nI (ql p + 1)))).S ((NF.i (n := n) (a := n + 9) h _ (by omega) (by omega)).S hS)) (hV.snd ⟨hQ, by omega⟩ hr kd (nI r) (nI k)) (by rw [ql_send (by omega)]; exact mSend_6) (by rw [ql_send (by omega)]; exact hB) (by omega) (fun h' hF hV' => kk h' (((NF.i (n := n) (a := n + 9) h _ (by omega) (by omega)).trans (NF.f _ _)).trans hF) hV')
      unfold bt at c
      unfold pkm at ih
      simp (disch := omega) only [U_Ne_sends (cm _), SA, SB, SG, SV, SK, leI, hk7, hfull, sh, e9, e4, n9, c, nI_add, nI_clamp, in_eq, up1_s, Nat.reduceLeDiff, true_implies, not_true_eq_false, not_false_eq_true, false_implies, and_true, true_and]
      exact ih
    · rw [if_neg c] at kk hB
      have ih := x_l_sends d n r hr kd set Q lm m (k + 1) h p hS hV hQ hB (by omega) kk
      unfold bt at c
      simp (disch := omega) only [U_Ne_sends (cm _), SA, SB, SG, SV, SK, leI, hk7, c, nI_add, true_implies, not_true_eq_false, not_false_eq_true, false_implies, and_true, true_and]
      exact ih
theorem x_sends (d n r : Nat) (hr : r < 7) (kd set : Int32) {h : MH} {p : RW} (hS : NeS h n) (hV : NeV h n p) (hQ : p 6 = nI (ql p)) (hB : ql p + cnt set ≤ 420) (Q : RT) (kk : ∀ h', NF n h h' → NeV h' n (mSendAll p kd r set) → Q none h') : callD (d + 1) 28 [.ref n, .int kd, .int (nI r), .int set] h Q := by
  rw [E_Ne_sends]
  simp only [U_Ne_sends (cm _), SA, SB, SG, SV]
  exact x_l_sends d n r hr kd set Q _ 7 0 h p hS hV hQ (by rw [cnt_add]; exact hB) rfl kk
