/-! ===== how many messages an act leaves ===== -/
theorem wi_loseN {p : RW} {a b N : Nat} (hN : N ≤ 400) (ha : a < 7) (hb : b < 7) (base : IC p ∧ IT p ∧ (∀ r, r < 7 → IR p r)) (tm : ITm p) (hQ : QL p N) (hm : ∀ i, i < ql p → ∃ k f t d, MV p i k f t d ∧ (((f = a ∧ t = b) ∨ (f = b ∧ t = a)) ∨ nI 0 < gC p t f)) : WI (mLose p (nI a) (nI b)) N ∧ ∀ j, j < 154 → j ≠ 6 → mLose p (nI a) (nI b) j = p j := by
  obtain ⟨l1, l2, l3⟩ := los_inv (nI a) (nI b) p (ql p) (ql p) 0 p 0 (by omega) (by omega) (fun _ _ => rfl) (fun _ _ _ _ _ => rfl) (fun b hb => by omega)
  have h6 : mLose p (nI a) (nI b) 6 = nI (itr (losG (nI a) (nI b)) 0 (ql p) (p, 0)).2 := up1_s _ _ _
  have lo : ∀ j, j < 154 → j ≠ 6 → mLose p (nI a) (nI b) j = p j := fun j hj h => by unfold mLose; rw [up1_n _ _ h]; exact l1 j hj
  have hq : ql (mLose p (nI a) (nI b)) = (itr (losG (nI a) (nI b)) 0 (ql p) (p, 0)).2 := ql_of h6 (by have := hQ.2; omega)
  have gc : ∀ r o, r < 7 → o < 7 → gC (mLose p (nI a) (nI b)) r o = gC p r o := fun r o hr ho => lo _ (by omega) (by omega)
  refine ⟨⟨⟨IC_c gc base.1, IT_c (fun r o hr ho => lo _ (by omega) (by omega)) base.2.1, fun r hr => IR_c (fun j hj => lo _ (by omega) (by omega)) (base.2.2 r hr)⟩, fun i hi => ?_, ?_, QL_of h6 (Nat.le_trans l2 hQ.2) (by omega)⟩, lo⟩
  · rw [hq] at hi
    obtain ⟨j, j1, j2, j3⟩ := l3 i hi
    obtain ⟨k, f, t, d, mv, l⟩ := hm j j1
    have nl : ¬ ((f = a ∧ t = b) ∨ (f = b ∧ t = a)) := fun z => j2 ((isL_iff mv ha hb).mpr z)
    obtain ⟨m1, m2, m3, m4, e1, e2, e3, e4⟩ := mv
    have hx : ∀ c, c < 4 → mLose p (nI a) (nI b) (154 + 4 * i + c) = p (154 + 4 * j + c) := fun c hc => by unfold mLose; rw [up1_n _ _ (by omega)]; exact j3 c hc
    exact ⟨k, f, t, d, ⟨m1, m2, m3, m4, (hx 0 (by omega)).trans e1, (hx 1 (by omega)).trans e2, (hx 2 (by omega)).trans e3, (hx 3 (by omega)).trans e4⟩, by rw [gc t f m3 m2]; exact l.resolve_left nl⟩
  · obtain ⟨t, t1, t2⟩ := tm
    exact ⟨t, t1, (lo 5 (by omega) (by omega)).trans t2⟩
theorem lk3_wiN {p : RW} {a b cn N : Nat} (hN : N ≤ 400) (ha : a < 7) (hb : b < 7) (hab : a ≠ b) (hc : cn ≤ 50) (w : WI p N) (hne : ¬ gC p a b = nI cn) : WI (mLk3 (mLk2 (mLk1 p a b (nI cn) (gC p a b)) a b (gC p a b)) a b (nI cn)) (N + 2) ∧
    (∀ r o, r < 7 → o < 7 → gC (mLk3 (mLk2 (mLk1 p a b (nI cn) (gC p a b)) a b (gC p a b)) a b (nI cn)) r o = if (r = a ∧ o = b) ∨ (r = b ∧ o = a) then nI cn else gC p r o) ∧ (∀ r j, r < 7 → j < 7 → gR (mLk3 (mLk2 (mLk1 p a b (nI cn) (gC p a b)) a b (gC p a b)) a b (nI cn)) r j = gR p r j) := by
  obtain ⟨b1, b2, b3, b4, gc, gr, b5⟩ := lk1_base (had := gC p a b) ha hb hab hc w
  by_cases c0 : cn = 0
  · subst c0
    have h0 : ¬ gC p a b = nI 0 := hne
    unfold mLk3 mLk2
    rw [if_pos rfl, if_neg h0]
    obtain ⟨w1, lo⟩ := wi_loseN hN ha hb b1 b2 b3 (fun i hi => by
      rw [b4] at hi
      obtain ⟨k, f, t, d, mv, l⟩ := b5 i hi
      refine ⟨k, f, t, d, mv, ?_⟩
      by_cases e : (f = a ∧ t = b) ∨ (f = b ∧ t = a)
      · exact Or.inl e
      · right; rw [gc t f mv.2.2.1 mv.2.1, if_neg (by omega)]; exact l)
    exact ⟨w1.mono (by omega), fun r o hr ho => (lo _ (by omega) (by omega)).trans (gc r o hr ho), fun r j hr hj => (lo _ (by omega) (by omega)).trans (gr r j hr hj)⟩
  · have hc0 : ¬ nI cn = nI 0 := by rw [eqI (by omega) (by omega)]; exact c0
    have hp : nI 0 < nI cn := by rw [ltI (by omega) (by omega)]; omega
    have w1 : WI (mLk1 p a b (nI cn) (gC p a b)) N := ⟨b1, fun i hi => by
      rw [b4] at hi
      obtain ⟨k, f, t, d, mv, l⟩ := b5 i hi
      refine ⟨k, f, t, d, mv, ?_⟩
      rw [gc t f mv.2.2.1 mv.2.1]
      split
      · exact hp
      · exact l, b2, b3⟩
    unfold mLk3 mLk2
    rw [if_neg hc0]
    split
    · have g1 : gC (mLk1 p a b (nI cn) (gC p a b)) a b = nI cn := by rw [gc a b ha hb, if_pos (Or.inl ⟨rfl, rfl⟩)]
      have g2 : gC (mLk1 p a b (nI cn) (gC p a b)) b a = nI cn := by rw [gc b a hb ha, if_pos (Or.inr ⟨rfl, rfl⟩)]
      have w2 := w1.send1 (by omega) (k := 0) (by omega) ha hb (by rw [g1]; exact hp)
      have w3 := w2.send1 (by omega) (k := 0) (by omega) hb ha (by rw [gC_send hb ha, g2]; exact hp)
      exact ⟨w3, fun r o hr ho => by rw [gC_send hr ho, gC_send hr ho]; exact gc r o hr ho, fun r j hr hj => by rw [gR_send hr hj, gR_send hr hj]; exact gr r j hr hj⟩
    · exact ⟨w1.mono (by omega), gc, gr⟩
theorem lnk_len {p : RW} {a b cn N : Nat} (hN : N ≤ 400) (ha : a < 7) (hb : b < 7) (hab : a ≠ b) (hc : cn ≤ 50) (w : WI p N) (v : IV p) (hne : ¬ gC p a b = nI cn) : QL (mLnk p a b (nI cn)) (N + 16) := by
  obtain ⟨w, -, -⟩ := lk3_wiN hN ha hb hab hc w hne
  have P := lk3_pl ha hb hab hc v hne
  unfold mLnk
  have R1 := r_TL ha hb w (by omega) P.1 (P.2.2.1 a ha) P.2.2.2
  obtain ⟨n1, n2, n3⟩ := P.next ha hb hab R1
  exact QL_mono (r_TL hb ha R1.1 (by omega) n1 (n2 b hb) n3).1.2.2.2 (by omega)
theorem dlv_len {p : RW} {i k f t d N : Nat} (hN : N ≤ 400) (w : WI p N) (v : ∀ s, s < 7 → IO p s ∧ IP p s) (h0 : gR p 0 3 = nI 0) (hi : i < ql p) (hm : MV p i k f t d) (hl : nI 0 < gC p t f) : QL (mDlv p i k f t d) (N + 7) := by
  obtain ⟨-, m2, m3, m4, -⟩ := hm
  have w1 := (w.tol m3 m2 m4).out (by omega) (i := i) (by rw [ql_up (by omega)]; exact hi)
  have gc : ∀ a b, a < 7 → b < 7 → gC (mOut (up1 p (56 + 7 * t + f) (nI d)) i) a b = gC p a b := fun a b ha hb => (mOut_lo (by omega) (by omega)).trans (gC_up (by omega))
  have gr : ∀ a j, a < 7 → j < 7 → gR (mOut (up1 p (56 + 7 * t + f) (nI d)) i) a j = gR p a j := fun a j ha hj => (mOut_lo (by omega) (by omega)).trans (gR_up (by omega))
  obtain ⟨R, -⟩ := r_hear m3 m2 w1 (by omega) (k := k) (iv_lo gc gr v) ((gr 0 3 (by omega) (by omega)).trans h0) (by rw [gc t f m3 m2]; exact hl)
  exact QL_mono R.1.tim.2.2.2 (by omega)
theorem cut_len {p : RW} {r N : Nat} (hN : N ≤ 400) (hr : r < 7) (w : WI p N) (v : ∀ s, s < 7 → IO p s ∧ IP p s) : QL (mCut p r) (N + 7) := by
  have w1 : WI (mCutT p r (gR p r 4)) N := wi_cutT hr 7 0 p N (by omega) w
  have lo : ∀ j, j < 56 ∨ 105 ≤ j → mCutT p r (gR p r 4) j = p j := fun j hj => cutT_n r _ hr hj 7 0 p (by omega)
  have w2 := w1.up hr (j := 4) (v := nI 0) (by omega) (fun e => by omega) (fun e => by omega) (fun e => by omega) (fun _ => m7_0) (fun _ => bt_0 r hr)
  have w3 := w2.up hr (j := 6) (v := nI 0) (by omega) (fun e => by omega) (fun e => by omega) (fun e => by omega) (fun e => by omega)
  have s3 : Sm p (up1 (up1 (mCutT p r (gR p r 4)) (105 + 7 * r + 4) (nI 0)) (105 + 7 * r + 6) (nI 0)) r := ⟨fun a b ha hb => by rw [gC_up (by omega), gC_up (by omega)]; exact lo _ (by omega), fun a j ha hj e => by rw [gR_up (by omega), gR_up (by omega)]; exact lo _ (by omega)⟩
  have e5 : gR (up1 (up1 (mCutT p r (gR p r 4)) (105 + 7 * r + 4) (nI 0)) (105 + 7 * r + 6) (nI 0)) r 5 = gR p r 5 := by rw [gR_up (by omega), gR_up (by omega)]; exact lo _ (by omega)
  exact (r_ends hr w3 (by omega) (IO_c hr e5 s3.1 (v r hr).1)).1.2.2.2
theorem raw_len {Lo : Option LWS} {p : RW} {kd N : Nat} {one other costs : Int32} (hN : N ≤ 400) (hk3 : kd < 3) (v : IV p) (hQ : QL p N) (h : aRef Lo p kd one other costs = nI 0) : QL (aRaw Lo p kd one other costs) (N + 16) := by
  have w : WI p N := ⟨v.1.1, v.1.2.1, v.1.2.2.1, hQ⟩
  rcases (show kd = 0 ∨ kd = 1 ∨ kd = 2 by omega) with rfl | rfl | rfl
  · obtain ⟨a, b, c, ha, hb, hab, hc, rfl, rfl, rfl, hne⟩ := ref_0 h
    unfold aRaw
    rw [if_neg (by omega), if_neg (by omega), nn_n (by omega), nn_n (by omega)]
    exact lnk_len hN ha hb hab hc w v hne
  · have h6 := ref_1 h
    have hq0 : 0 < ql p := by
      rw [hQ.1, eqI (by have := hQ.2; omega) (by omega)] at h6
      omega
    obtain ⟨-, n2⟩ := jNx_ok Lo hq0 (by have := hQ.2; omega)
    obtain ⟨k, f, t, d, mv, l⟩ := v.1.2.1 _ n2
    unfold aRaw
    rw [if_pos rfl, dl_eq mv]
    exact QL_mono (dlv_len hN w v.2.1 v.2.2 n2 mv l) (by omega)
  · obtain ⟨r, hr, rfl, h3⟩ := ref_2 h
    unfold aRaw
    rw [if_neg (by omega), if_pos rfl, nn_n (by omega)]
    exact QL_mono (cut_len hN hr w v.2.1) (by omega)
