theorem lk1_gen {p : RW} {a b : Nat} {c had : Int32} (ha : a < 7) (hb : b < 7) : (∀ j, j < 56 ∨ 105 ≤ j → mLk1 p a b c had j = mLk0 p a b c j) ∧ ∀ r o, r < 7 → o < 7 → gT (mLk1 p a b c had) r o = gT p r o ∨ gT (mLk1 p a b c had) r o = nI 9999 := by
  unfold mLk1
  split
  · refine ⟨fun j hj => by rw [up1_n _ _ (by omega), up1_n _ _ (by omega)], fun r o hr ho => ?_⟩
    by_cases e2 : r = b ∧ o = a
    · obtain ⟨rfl, rfl⟩ := e2
      exact Or.inr (up1_s _ _ _)
    · rw [gT_up (by omega)]
      by_cases e1 : r = a ∧ o = b
      · obtain ⟨rfl, rfl⟩ := e1
        exact Or.inr (up1_s _ _ _)
      · rw [gT_up (by omega)]; exact Or.inl (lk0_hi ha hb (by omega))
  · exact ⟨fun _ _ => rfl, fun r o hr ho => Or.inl (lk0_hi ha hb (by omega))⟩
theorem lk1_base {p : RW} {N a b cn : Nat} {had : Int32} (ha : a < 7) (hb : b < 7) (hab : a ≠ b) (hc : cn ≤ 50) (w : WI p N) : (IC (mLk1 p a b (nI cn) had) ∧ IT (mLk1 p a b (nI cn) had) ∧ (∀ r, r < 7 → IR (mLk1 p a b (nI cn) had) r)) ∧ ITm (mLk1 p a b (nI cn) had) ∧ QL (mLk1 p a b (nI cn) had) N ∧ ql (mLk1 p a b (nI cn) had) = ql p ∧
    (∀ r o, r < 7 → o < 7 → gC (mLk1 p a b (nI cn) had) r o = if (r = a ∧ o = b) ∨ (r = b ∧ o = a) then nI cn else gC p r o) ∧ (∀ r j, r < 7 → j < 7 → gR (mLk1 p a b (nI cn) had) r j = gR p r j) ∧ ∀ i, i < ql p → ∃ k f t d, MV (mLk1 p a b (nI cn) had) i k f t d ∧ nI 0 < gC p t f := by
  obtain ⟨lo, lt⟩ := lk1_gen (p := p) (c := nI cn) (had := had) ha hb
  obtain ⟨⟨c, t, s⟩, m, ⟨tm, t1, t2⟩, q⟩ := w
  have gc : ∀ r o, r < 7 → o < 7 → gC (mLk1 p a b (nI cn) had) r o = if (r = a ∧ o = b) ∨ (r = b ∧ o = a) then nI cn else gC p r o := fun r o hr ho => by
    rw [show gC (mLk1 p a b (nI cn) had) r o = gC (mLk0 p a b (nI cn)) r o from lo _ (by omega), gC_lk0 ha hb hr ho]
  have hi : ∀ j, j < 7 ∨ 105 ≤ j → mLk1 p a b (nI cn) had j = p j := fun j hj => (lo j (by omega)).trans (lk0_hi ha hb (by omega))
  have gr : ∀ r j, r < 7 → j < 7 → gR (mLk1 p a b (nI cn) had) r j = gR p r j := fun r j hr hj => hi _ (by omega)
  have hq : ql (mLk1 p a b (nI cn) had) = ql p := by unfold ql; rw [hi 6 (by omega)]
  refine ⟨⟨fun r o hr ho => ?_, fun r o hr ho => ?_, fun r hr => IR_c (fun j hj => gr r j hr hj) (s r hr)⟩, ⟨tm, t1, (hi 5 (by omega)).trans t2⟩, ?_, hq, gc, gr, fun i hi' => ?_⟩
  · by_cases e : (r = a ∧ o = b) ∨ (r = b ∧ o = a)
    · exact ⟨cn, hc, by rw [gc r o hr ho, if_pos e], by rw [gc o r ho hr, if_pos (by omega)], fun z => by omega⟩
    · obtain ⟨x, x1, e1, e2, e3⟩ := c r o hr ho
      exact ⟨x, x1, by rw [gc r o hr ho, if_neg e]; exact e1, by rw [gc o r ho hr, if_neg (by omega)]; exact e2, e3⟩
  · rcases lt r o hr ho with e | e
    · rw [e]; exact t r o hr ho
    · exact ⟨9999, by omega, e⟩
  · rw [QL_eq (hi 6 (by omega))]; exact q
  · obtain ⟨k, f, t', d, mv, l⟩ := m i hi'
    exact ⟨k, f, t', d, MV_c (fun c hc => hi _ (by omega)) mv, l⟩
theorem lk3_wi {p : RW} {a b cn : Nat} (ha : a < 7) (hb : b < 7) (hab : a ≠ b) (hc : cn ≤ 50) (w : WI p 400) (hne : ¬ gC p a b = nI cn) : WI (mLk3 (mLk2 (mLk1 p a b (nI cn) (gC p a b)) a b (gC p a b)) a b (nI cn)) 402 ∧
    (∀ r o, r < 7 → o < 7 → gC (mLk3 (mLk2 (mLk1 p a b (nI cn) (gC p a b)) a b (gC p a b)) a b (nI cn)) r o = if (r = a ∧ o = b) ∨ (r = b ∧ o = a) then nI cn else gC p r o) ∧ (∀ r j, r < 7 → j < 7 → gR (mLk3 (mLk2 (mLk1 p a b (nI cn) (gC p a b)) a b (gC p a b)) a b (nI cn)) r j = gR p r j) := by
  obtain ⟨b1, b2, b3, b4, gc, gr, b5⟩ := lk1_base (had := gC p a b) ha hb hab hc w
  by_cases c0 : cn = 0
  · subst c0
    have h0 : ¬ gC p a b = nI 0 := hne
    unfold mLk3 mLk2
    rw [if_pos rfl, if_neg h0]
    obtain ⟨w1, lo⟩ := wi_lose ha hb b1 b2 b3 (fun i hi => by
      rw [b4] at hi
      obtain ⟨k, f, t, d, mv, l⟩ := b5 i hi
      refine ⟨k, f, t, d, mv, ?_⟩
      by_cases e : (f = a ∧ t = b) ∨ (f = b ∧ t = a)
      · exact Or.inl e
      · right; rw [gc t f mv.2.2.1 mv.2.1, if_neg (by omega)]; exact l)
    exact ⟨w1.mono (by omega), fun r o hr ho => (lo _ (by omega) (by omega)).trans (gc r o hr ho), fun r j hr hj => (lo _ (by omega) (by omega)).trans (gr r j hr hj)⟩
  · have hc0 : ¬ nI cn = nI 0 := by rw [eqI (by omega) (by omega)]; exact c0
    have hp : nI 0 < nI cn := by rw [ltI (by omega) (by omega)]; omega
    have w1 : WI (mLk1 p a b (nI cn) (gC p a b)) 400 := ⟨b1, fun i hi => by
      rw [b4] at hi
      obtain ⟨k, f, t, d, mv, l⟩ := b5 i hi
      refine ⟨k, f, t, d, mv, ?_⟩
      rw [gc t f mv.2.2.1 mv.2.1]
      split
      · exact hp
      · exact l, b2, b3⟩
    unfold mLk3 mLk2
    rw [if_neg hc0]
    split
    · have g1 : gC (mLk1 p a b (nI cn) (gC p a b)) a b = nI cn := by rw [gc a b ha hb, if_pos (Or.inl ⟨rfl, rfl⟩)]
      have g2 : gC (mLk1 p a b (nI cn) (gC p a b)) b a = nI cn := by rw [gc b a hb ha, if_pos (Or.inr ⟨rfl, rfl⟩)]
      have w2 := w1.send1 (by omega) (k := 0) (by omega) ha hb (by rw [g1]; exact hp)
      have w3 := w2.send1 (by omega) (k := 0) (by omega) hb ha (by rw [gC_send hb ha, g2]; exact hp)
      exact ⟨w3, fun r o hr ho => by rw [gC_send hr ho, gC_send hr ho]; exact gc r o hr ho, fun r j hr hj => by rw [gR_send hr hj, gR_send hr hj]; exact gr r j hr hj⟩
    · exact ⟨w1.mono (by omega), gc, gr⟩
/-- what both ends of a changed link need -/
def PL (q : RW) (a b : Nat) : Prop := (∀ k, k < 7 → k ≠ b → bt (gR q a 5) k = nI 1 → nI 0 < gC q a k) ∧ (∀ k, k < 7 → k ≠ a → bt (gR q b 5) k = nI 1 → nI 0 < gC q b k) ∧ (∀ s, s < 7 → IP q s) ∧ gR q 0 3 = nI 0
theorem lk3_pl {p : RW} {a b cn : Nat} (ha : a < 7) (hb : b < 7) (hab : a ≠ b) (hc : cn ≤ 50) (v : IV p) (hne : ¬ gC p a b = nI cn) : PL (mLk3 (mLk2 (mLk1 p a b (nI cn) (gC p a b)) a b (gC p a b)) a b (nI cn)) a b := by
  obtain ⟨w, gc, gr⟩ := lk3_wi ha hb hab hc v.1 hne
  obtain ⟨-, v, h0⟩ := v
  refine ⟨fun k hk e z => ?_, fun k hk e z => ?_, fun s hs => IP_c (gr s 5 hs (by omega)) (gr s 3 hs (by omega)) (v s hs).2, (gr 0 3 (by omega) (by omega)).trans h0⟩
  · rw [gc a k ha hk, if_neg (by omega)]
    rw [gr a 5 ha (by omega)] at z
    exact (v a ha).1 k hk z
  · rw [gc b k hb hk, if_neg (by omega)]
    rw [gr b 5 hb (by omega)] at z
    exact (v b hb).1 k hk z
theorem PL.next {q : RW} {a b N : Nat} (ha : a < 7) (hb : b < 7) (hab : a ≠ b) (P : PL q a b) (R : RES q (mTL q a b) a N) : (∀ k, k < 7 → k ≠ a → bt (gR (mTL q a b) b 5) k = nI 1 → nI 0 < gC (mTL q a b) b k) ∧ (∀ s, s < 7 → IP (mTL q a b) s) ∧ gR (mTL q a b) 0 3 = nI 0 := by
  obtain ⟨p1, p2, p3, p4⟩ := P
  obtain ⟨-, s, -, ip⟩ := R
  refine ⟨fun k hk e z => ?_, fun x hx => ?_, ?_⟩
  · rw [s.1 b k hb hk]
    rw [s.2 b 5 hb (by omega) (fun e => hab e.symm)] at z
    exact p2 k hk e z
  · by_cases e : x = a
    · subst e; exact ip
    · exact IP_c (s.2 x 5 hx (by omega) e) (s.2 x 3 hx (by omega) e) (p3 x hx)
  · by_cases e : a = 0
    · subst e
      unfold mTL
      rw [if_pos rfl]; exact p4
    · rw [s.2 0 3 (by omega) (by omega) (fun z => e z.symm)]; exact p4
theorem iv_lnk {p : RW} {a b cn : Nat} (ha : a < 7) (hb : b < 7) (hab : a ≠ b) (hc : cn ≤ 50) (v : IV p) (hne : ¬ gC p a b = nI cn) : WI (mLnk p a b (nI cn)) 416 ∧ (∀ s, s < 7 → IO (mLnk p a b (nI cn)) s ∧ IP (mLnk p a b (nI cn)) s) ∧ gR (mLnk p a b (nI cn)) 0 3 = nI 0 := by
  obtain ⟨w, gc, gr⟩ := lk3_wi ha hb hab hc v.1 hne
  have P := lk3_pl ha hb hab hc v hne
  unfold mLnk
  generalize (mLk3 (mLk2 (mLk1 p a b (nI cn) (gC p a b)) a b (gC p a b)) a b (nI cn)) = q at *
  have R1 := r_TL ha hb w (by omega) P.1 (P.2.2.1 a ha) P.2.2.2
  obtain ⟨n1, n2, n3⟩ := P.next ha hb hab R1
  have R2 := r_TL hb ha R1.1 (by omega) n1 (n2 b hb) n3
  refine ⟨R2.1, fun s hs => ⟨?_, ?_⟩, ?_⟩
  · by_cases e : s = b
    · subst e; exact R2.2.2.1
    · refine IO_c hs (R2.2.1.2 s 5 hs (by omega) e) R2.2.1.1 ?_
      by_cases e2 : s = a
      · subst e2; exact R1.2.2.1
      · refine IO_c hs (R1.2.1.2 s 5 hs (by omega) e2) R1.2.1.1 (fun o ho z => ?_)
        rw [gc s o hs ho, if_neg (by omega)]
        rw [gr s 5 hs (by omega)] at z
        exact (v.2.1 s hs).1 o ho z
  · by_cases e : s = b
    · subst e; exact R2.2.2.2
    · exact IP_c (R2.2.1.2 s 5 hs (by omega) e) (R2.2.1.2 s 3 hs (by omega) e) (n2 s hs)
  · by_cases e : b = 0
    · subst e
      show gR (if (0 : Nat) = 0 then mTL q a 0 else _) 0 3 = nI 0
      rw [if_pos rfl]; exact n3
    · rw [R2.2.1.2 0 3 (by omega) (by omega) (fun z => e z.symm)]; exact n3
/-! ===== the program's relinks ===== -/
theorem y_rl134 (d n a b : Nat) (ha : a < 7) (hb : b < 7) (hab : a ≠ b) (c had : Int32) {h0 h : MH} {q : RW} (X : XN h0 n h q) (w : WI q 402) (P : PL q a b) (Q : RT) (lm : Nat × Nat) (kk : ∀ h', XN h0 n h' (mTL (mTL q a b) b a) → Q (some (.int had)) h') : WP cd_Ne_relinks (callD (d + 5)) Q lm 134 [] [some (.ref n), some (.int (nI a)), some (.int (nI b)), some (.int c), some (.int had)] h := by
  have R1 := r_TL ha hb w (by omega) P.1 (P.2.2.1 a ha) P.2.2.2
  obtain ⟨n1, n2, n3⟩ := P.next ha hb hab R1
  obtain ⟨sh, -⟩ := X.2.1.all
  simp (disch := omega) only [U_Ne_relinks (cm _), SA, SB, SC1, SC2, SG, SV, sh, true_and]
  refine y_takesChange d n a b ha hb X (QL_mono w.2.2.2 (by omega)) w.1.1.CN (w.1.2.2 a ha).2.1 (w.1.2.2 a ha).2.2.2.2 P.1 _ (fun h1 X1 => ?_)
  obtain ⟨sh1', -⟩ := X1.2.1.all
  simp (disch := omega) only [U_Ne_relinks (cm _), SA, SB, SC1, SC2, SG, SV, sh1', true_and]
  refine y_takesChange d n b a hb ha X1 (QL_mono R1.1.2.2.2 (by omega)) R1.1.1.1.CN (R1.1.1.2.2 b hb).2.1 (R1.1.1.2.2 b hb).2.2.2.2 n1 _ (fun h2 X2 => ?_)
  simp (disch := omega) only [U_Ne_relinks (cm _), SA, SB, SC1, SC2, SG, SV]
  exact kk h2 X2
theorem y_rl98 (d n a b cn : Nat) (ha : a < 7) (hb : b < 7) (hab : a ≠ b) (hc : cn ≤ 50) (had : Int32) {h0 h : MH} {q : RW} (X : XN h0 n h q) (hQ : QL q 400) (hv : MVs q) (hx : had = nI 0 → ¬ nI cn = nI 0) (Q : RT) (lm : Nat × Nat) (w : WI (mLk3 (mLk2 q a b had) a b (nI cn)) 402) (P : PL (mLk3 (mLk2 q a b had) a b (nI cn)) a b) (kk : ∀ h', XN h0 n h' (mTL (mTL (mLk3 (mLk2 q a b had) a b (nI cn)) a b) b a) → Q (some (.int had)) h') : WP cd_Ne_relinks (callD (d + 5)) Q lm 98 [] [some (.ref n), some (.int (nI a)), some (.int (nI b)), some (.int (nI cn)), some (.int had)] h := by
  obtain ⟨sh, -⟩ := X.2.1.all
  have T := fun h' Y => y_rl134 d n a b ha hb hab (nI cn) had (h0 := h0) (h := h') (q := mLk3 (mLk2 q a b had) a b (nI cn)) Y w P Q lm kk
  unfold mLk3 mLk2 at T
  by_cases c1 : had = nI 0
  · have c2 := hx c1
    subst c1
    rw [if_neg c2, if_pos rfl] at T
    rw [← sall_1 q (nI 0) a hb] at T
    rw [← sall_1 (mSendAll q (nI 0) a (sh1 b)) (nI 0) b ha] at T
    have Y1 := y_sends (d + 4) n a ha (nI 0) (sh1 b) X hQ.1 (by have := cnt_le (sh1 b); have := hQ.2; omega)
    have hQ1 : QL (mSendAll q (nI 0) a (nI 1 <<< (nI b &&& 31))) 407 := QL_send hQ (by omega)
    unfold sh1 at Y1
    simp (disch := omega) only [U_Ne_relinks (cm _), SA, SB, SC1, SC2, SG, SV, sh, true_and, true_implies, not_true_eq_false, not_false_eq_true, false_implies, and_true]
    refine Y1 _ (fun h1 X1 => ?_)
    obtain ⟨sh1', -⟩ := X1.2.1.all
    have Y2 := y_sends (d + 4) n b hb (nI 0) (sh1 a) X1 hQ1.1 (by have := cnt_le (sh1 a); have := hQ1.2; omega)
    unfold sh1 at Y2 T
    simp (disch := omega) only [U_Ne_relinks (cm _), SA, SB, SC1, SC2, SG, SV, sh1', true_and]
    refine Y2 _ (fun h2 X2 => ?_)
    have T2 := T h2 X2
    simp (disch := omega) only [↓eq_true T2, U_Ne_relinks (cm _), SA, SB, SC1, SC2, SG, SV]
  · rw [if_neg c1] at T
    by_cases c2 : nI cn = nI 0
    · rw [if_pos c2] at T
      simp (disch := omega) only [U_Ne_relinks (cm _), SA, SB, SC1, SC2, SG, SV, sh, c1, eq_true c2, true_and, true_implies, not_true_eq_false, not_false_eq_true, false_implies, and_true]
      refine y_loses (d + 3) n a b ha hb X (QL_mono hQ (by omega)) hv _ (fun h1 X1 => ?_)
      have T2 := T h1 X1
      rw [c2] at T2
      simp (disch := omega) only [SV]
      first | exact T2 | (rw [c2]; exact T2)
    · rw [if_neg c2] at T
      have T2 := T h X
      simp (disch := omega) only [↓eq_true T2, U_Ne_relinks (cm _), SA, SB, SC1, SC2, SG, SV, c1, c2, true_and, true_implies, not_true_eq_false, not_false_eq_true, false_implies, and_true]
set_option maxRecDepth 20000 in
theorem UC_Ne_relinks_98 {G : GT} (hG : Gmono G) (R : RT) (lm : Nat × Nat) : WP cd_Ne_relinks G R lm 0 = stp G R lm (2, 1, 0, 0, 0, 0, []) (WP cd_Ne_relinks G R lm) ∧ WP cd_Ne_relinks G R lm 1 = stp G R lm (58, 4, 2, 0, 0, 0, []) (WP cd_Ne_relinks G R lm) ∧ WP cd_Ne_relinks G R lm 4 = stp G R lm (1, 5, 1, 0, 0, 0, []) (WP cd_Ne_relinks G R lm) ∧ WP cd_Ne_relinks G R lm 5 = stp G R lm (7, 7, 0, 0, nI 7, 0, []) (WP cd_Ne_relinks G R lm) ∧ WP cd_Ne_relinks G R lm 7 = stp G R lm (14, 8, 0, 0, 0, 0, []) (WP cd_Ne_relinks G R lm) ∧ WP cd_Ne_relinks G R lm 8 = stp G R lm (1, 9, 2, 0, 0, 0, []) (WP cd_Ne_relinks G R lm) ∧ WP cd_Ne_relinks G R lm 9 = stp G R lm (12, 10, 0, 0, 0, 0, []) (WP cd_Ne_relinks G R lm) ∧ WP cd_Ne_relinks G R lm 10 = stp G R lm (62, 11, 0, 0, 0, 0, []) (WP cd_Ne_relinks G R lm) ∧ WP cd_Ne_relinks G R lm 11 = stp G R lm (4, 13, 4, 0, 0, 0, []) (WP cd_Ne_relinks G R lm) ∧ WP cd_Ne_relinks G R lm 13 = stp G R lm (2, 14, 0, 0, 0, 0, []) (WP cd_Ne_relinks G R lm) ∧ WP cd_Ne_relinks G R lm 14 = stp G R lm (58, 17, 2, 0, 0, 0, []) (WP cd_Ne_relinks G R lm) ∧ WP cd_Ne_relinks G R lm 17 = stp G R lm (1, 18, 1, 0, 0, 0, []) (WP cd_Ne_relinks G R lm) ∧ WP cd_Ne_relinks G R lm 18 = stp G R lm (7, 20, 0, 0, nI 7, 0, []) (WP cd_Ne_relinks G R lm) ∧ WP cd_Ne_relinks G R lm 20 = stp G R lm (14, 21, 0, 0, 0, 0, []) (WP cd_Ne_relinks G R lm) ∧ WP cd_Ne_relinks G R lm 21 = stp G R lm (1, 22, 2, 0, 0, 0, []) (WP cd_Ne_relinks G R lm) ∧ WP cd_Ne_relinks G R lm 22 = stp G R lm (12, 23, 0, 0, 0, 0, []) (WP cd_Ne_relinks G R lm) ∧ WP cd_Ne_relinks G R lm 23 = stp G R lm (1, 24, 3, 0, 0, 0, []) (WP cd_Ne_relinks G R lm) ∧ WP cd_Ne_relinks G R lm 24 = stp G R lm (66, 25, 0, 0, 0, 0, []) (WP cd_Ne_relinks G R lm) ∧ WP cd_Ne_relinks G R lm 25 = stp G R lm (2, 26, 0, 0, 0, 0, []) (WP cd_Ne_relinks G R lm) ∧ WP cd_Ne_relinks G R lm 26 = stp G R lm (58, 29, 2, 0, 0, 0, []) (WP cd_Ne_relinks G R lm) ∧ WP cd_Ne_relinks G R lm 29 = stp G R lm (1, 30, 2, 0, 0, 0, []) (WP cd_Ne_relinks G R lm) ∧ WP cd_Ne_relinks G R lm 30 = stp G R lm (7, 32, 0, 0, nI 7, 0, []) (WP cd_Ne_relinks G R lm) ∧ WP cd_Ne_relinks G R lm 32 = stp G R lm (14, 33, 0, 0, 0, 0, []) (WP cd_Ne_relinks G R lm) ∧ WP cd_Ne_relinks G R lm 33 = stp G R lm (1, 34, 1, 0, 0, 0, []) (WP cd_Ne_relinks G R lm) ∧ WP cd_Ne_relinks G R lm 34 = stp G R lm (12, 35, 0, 0, 0, 0, []) (WP cd_Ne_relinks G R lm) ∧ WP cd_Ne_relinks G R lm 35 = stp G R lm (1, 36, 3, 0, 0, 0, []) (WP cd_Ne_relinks G R lm) ∧ WP cd_Ne_relinks G R lm 36 = stp G R lm (66, 37, 0, 0, 0, 0, []) (WP cd_Ne_relinks G R lm) ∧ WP cd_Ne_relinks G R lm 37 = stp G R lm (1, 39, 4, 0, 0, 0, []) (WP cd_Ne_relinks G R lm) ∧ WP cd_Ne_relinks G R lm 39 = stp G R lm (47, 42, 46, 0, 0, 0, []) (WP cd_Ne_relinks G R lm) ∧ WP cd_Ne_relinks G R lm 42 = stp G R lm (1, 43, 3, 0, 0, 0, []) (WP cd_Ne_relinks G R lm) ∧ WP cd_Ne_relinks G R lm 43 = stp G R lm (48, 46, 98, 0, 0, 0, []) (WP cd_Ne_relinks G R lm) ∧ WP cd_Ne_relinks G R lm 46 = stp G R lm (2, 47, 0, 0, 0, 0, []) (WP cd_Ne_relinks G R lm) ∧ WP cd_Ne_relinks G R lm 47 = stp G R lm (58, 50, 2, 1, 0, 0, []) (WP cd_Ne_relinks G R lm) ∧ WP cd_Ne_relinks G R lm 50 = stp G R lm (1, 51, 1, 0, 0, 0, []) (WP cd_Ne_relinks G R lm) ∧ WP cd_Ne_relinks G R lm 51 = stp G R lm (7, 53, 0, 0, nI 7, 0, []) (WP cd_Ne_relinks G R lm) ∧ WP cd_Ne_relinks G R lm 53 = stp G R lm (14, 54, 0, 0, 0, 0, []) (WP cd_Ne_relinks G R lm) ∧ WP cd_Ne_relinks G R lm 54 = stp G R lm (1, 55, 2, 0, 0, 0, []) (WP cd_Ne_relinks G R lm) ∧ WP cd_Ne_relinks G R lm 55 = stp G R lm (12, 56, 0, 0, 0, 0, []) (WP cd_Ne_relinks G R lm) ∧ WP cd_Ne_relinks G R lm 56 = stp G R lm (7, 59, 0, 0, nI 9999, 0, []) (WP cd_Ne_relinks G R lm) ∧ WP cd_Ne_relinks G R lm 59 = stp G R lm (66, 60, 0, 0, 0, 0, []) (WP cd_Ne_relinks G R lm) ∧ WP cd_Ne_relinks G R lm 60 = stp G R lm (2, 61, 0, 0, 0, 0, []) (WP cd_Ne_relinks G R lm) ∧ WP cd_Ne_relinks G R lm 61 = stp G R lm (58, 64, 2, 1, 0, 0, []) (WP cd_Ne_relinks G R lm) ∧ WP cd_Ne_relinks G R lm 64 = stp G R lm (1, 65, 2, 0, 0, 0, []) (WP cd_Ne_relinks G R lm) ∧ WP cd_Ne_relinks G R lm 65 = stp G R lm (7, 67, 0, 0, nI 7, 0, []) (WP cd_Ne_relinks G R lm) ∧ WP cd_Ne_relinks G R lm 67 = stp G R lm (14, 68, 0, 0, 0, 0, []) (WP cd_Ne_relinks G R lm) ∧ WP cd_Ne_relinks G R lm 68 = stp G R lm (1, 69, 1, 0, 0, 0, []) (WP cd_Ne_relinks G R lm) ∧ WP cd_Ne_relinks G R lm 69 = stp G R lm (12, 70, 0, 0, 0, 0, []) (WP cd_Ne_relinks G R lm) ∧ WP cd_Ne_relinks G R lm 70 = stp G R lm (7, 73, 0, 0, nI 9999, 0, []) (WP cd_Ne_relinks G R lm) ∧ WP cd_Ne_relinks G R lm 73 = stp G R lm (66, 74, 0, 0, 0, 0, []) (WP cd_Ne_relinks G R lm) ∧ WP cd_Ne_relinks G R lm 74 = stp G R lm (2, 75, 0, 0, 0, 0, []) (WP cd_Ne_relinks G R lm) ∧ WP cd_Ne_relinks G R lm 75 = stp G R lm (58, 78, 2, 2, 0, 0, []) (WP cd_Ne_relinks G R lm) ∧ WP cd_Ne_relinks G R lm 78 = stp G R lm (1, 79, 1, 0, 0, 0, []) (WP cd_Ne_relinks G R lm) ∧ WP cd_Ne_relinks G R lm 79 = stp G R lm (38, 80, 0, 0, 0, 0, []) (WP cd_Ne_relinks G R lm) ∧ WP cd_Ne_relinks G R lm 80 = stp G R lm (62, 81, 0, 0, 0, 0, []) (WP cd_Ne_relinks G R lm) ∧ WP cd_Ne_relinks G R lm 81 = stp G R lm (7, 82, 0, 0, nI 1, 0, []) (WP cd_Ne_relinks G R lm) ∧ WP cd_Ne_relinks G R lm 82 = stp G R lm (1, 83, 2, 0, 0, 0, []) (WP cd_Ne_relinks G R lm) ∧ WP cd_Ne_relinks G R lm 83 = stp G R lm (18, 84, 0, 0, 0, 0, []) (WP cd_Ne_relinks G R lm) ∧ WP cd_Ne_relinks G R lm 84 = stp G R lm (23, 85, 0, 0, 0, 0, []) (WP cd_Ne_relinks G R lm) ∧ WP cd_Ne_relinks G R lm 85 = stp G R lm (66, 86, 0, 0, 0, 0, []) (WP cd_Ne_relinks G R lm) ∧ WP cd_Ne_relinks G R lm 86 = stp G R lm (2, 87, 0, 0, 0, 0, []) (WP cd_Ne_relinks G R lm) ∧ WP cd_Ne_relinks G R lm 87 = stp G R lm (58, 90, 2, 2, 0, 0, []) (WP cd_Ne_relinks G R lm) ∧ WP cd_Ne_relinks G R lm 90 = stp G R lm (1, 91, 2, 0, 0, 0, []) (WP cd_Ne_relinks G R lm) ∧ WP cd_Ne_relinks G R lm 91 = stp G R lm (38, 92, 0, 0, 0, 0, []) (WP cd_Ne_relinks G R lm) ∧ WP cd_Ne_relinks G R lm 92 = stp G R lm (62, 93, 0, 0, 0, 0, []) (WP cd_Ne_relinks G R lm) ∧ WP cd_Ne_relinks G R lm 93 = stp G R lm (7, 94, 0, 0, nI 1, 0, []) (WP cd_Ne_relinks G R lm) ∧ WP cd_Ne_relinks G R lm 94 = stp G R lm (1, 95, 1, 0, 0, 0, []) (WP cd_Ne_relinks G R lm) ∧ WP cd_Ne_relinks G R lm 95 = stp G R lm (18, 96, 0, 0, 0, 0, []) (WP cd_Ne_relinks G R lm) ∧ WP cd_Ne_relinks G R lm 96 = stp G R lm (23, 97, 0, 0, 0, 0, []) (WP cd_Ne_relinks G R lm) ∧ WP cd_Ne_relinks G R lm 97 = stp G R lm (66, 98, 0, 0, 0, 0, []) (WP cd_Ne_relinks G R lm) ∧ WP cd_Ne_relinks G R lm 100 = stp G R lm (48, 103, 124, 0, 0, 0, []) (WP cd_Ne_relinks G R lm) ∧ WP cd_Ne_relinks G R lm 103 = stp G R lm (2, 104, 0, 0, 0, 0, []) (WP cd_Ne_relinks G R lm) ∧ WP cd_Ne_relinks G R lm 104 = stp G R lm (7, 105, 0, 0, nI 0, 0, []) (WP cd_Ne_relinks G R lm) ∧ WP cd_Ne_relinks G R lm 105 = stp G R lm (1, 106, 1, 0, 0, 0, []) (WP cd_Ne_relinks G R lm) ∧ WP cd_Ne_relinks G R lm 106 = stp G R lm (7, 107, 0, 0, nI 1, 0, []) (WP cd_Ne_relinks G R lm) ∧ WP cd_Ne_relinks G R lm 107 = stp G R lm (1, 108, 2, 0, 0, 0, []) (WP cd_Ne_relinks G R lm) ∧ WP cd_Ne_relinks G R lm 108 = stp G R lm (18, 109, 0, 0, 0, 0, []) (WP cd_Ne_relinks G R lm) ∧ WP cd_Ne_relinks G R lm 109 = stp G R lm (86, 112, 28, 3, 0, 0, [2]) (WP cd_Ne_relinks G R lm) ∧ WP cd_Ne_relinks G R lm 112 = stp G R lm (2, 113, 0, 0, 0, 0, []) (WP cd_Ne_relinks G R lm) ∧ WP cd_Ne_relinks G R lm 113 = stp G R lm (7, 114, 0, 0, nI 0, 0, []) (WP cd_Ne_relinks G R lm) ∧ WP cd_Ne_relinks G R lm 114 = stp G R lm (1, 115, 2, 0, 0, 0, []) (WP cd_Ne_relinks G R lm) ∧ WP cd_Ne_relinks G R lm 115 = stp G R lm (7, 116, 0, 0, nI 1, 0, []) (WP cd_Ne_relinks G R lm) ∧ WP cd_Ne_relinks G R lm 116 = stp G R lm (1, 117, 1, 0, 0, 0, []) (WP cd_Ne_relinks G R lm) ∧ WP cd_Ne_relinks G R lm 117 = stp G R lm (18, 118, 0, 0, 0, 0, []) (WP cd_Ne_relinks G R lm) ∧ WP cd_Ne_relinks G R lm 118 = stp G R lm (86, 121, 28, 3, 0, 0, [2]) (WP cd_Ne_relinks G R lm) ∧ WP cd_Ne_relinks G R lm 121 = stp G R lm (40, 134, 0, 0, 0, 0, []) (WP cd_Ne_relinks G R lm) ∧ WP cd_Ne_relinks G R lm 124 = stp G R lm (1, 125, 3, 0, 0, 0, []) (WP cd_Ne_relinks G R lm) ∧ WP cd_Ne_relinks G R lm 125 = stp G R lm (48, 128, 134, 0, 0, 0, []) (WP cd_Ne_relinks G R lm) ∧ WP cd_Ne_relinks G R lm 128 = stp G R lm (2, 129, 0, 0, 0, 0, []) (WP cd_Ne_relinks G R lm) ∧ WP cd_Ne_relinks G R lm 129 = stp G R lm (1, 130, 1, 0, 0, 0, []) (WP cd_Ne_relinks G R lm) ∧ WP cd_Ne_relinks G R lm 130 = stp G R lm (1, 131, 2, 0, 0, 0, []) (WP cd_Ne_relinks G R lm) ∧ WP cd_Ne_relinks G R lm 131 = stp G R lm (86, 134, 30, 2, 0, 0, [2]) (WP cd_Ne_relinks G R lm) ∧ WP cd_Ne_relinks G R lm 134 = stp G R lm (2, 135, 0, 0, 0, 0, []) (WP cd_Ne_relinks G R lm) ∧ WP cd_Ne_relinks G R lm 135 = stp G R lm (1, 136, 1, 0, 0, 0, []) (WP cd_Ne_relinks G R lm) ∧ WP cd_Ne_relinks G R lm 136 = stp G R lm (1, 137, 2, 0, 0, 0, []) (WP cd_Ne_relinks G R lm) ∧ WP cd_Ne_relinks G R lm 137 = stp G R lm (86, 140, 31, 2, 0, 0, [2]) (WP cd_Ne_relinks G R lm) ∧ WP cd_Ne_relinks G R lm 140 = stp G R lm (2, 141, 0, 0, 0, 0, []) (WP cd_Ne_relinks G R lm) ∧ WP cd_Ne_relinks G R lm 141 = stp G R lm (1, 142, 2, 0, 0, 0, []) (WP cd_Ne_relinks G R lm) ∧ WP cd_Ne_relinks G R lm 142 = stp G R lm (1, 143, 1, 0, 0, 0, []) (WP cd_Ne_relinks G R lm) ∧ WP cd_Ne_relinks G R lm 143 = stp G R lm (86, 146, 31, 2, 0, 0, [2]) (WP cd_Ne_relinks G R lm) ∧ WP cd_Ne_relinks G R lm 146 = stp G R lm (1, 148, 4, 0, 0, 0, []) (WP cd_Ne_relinks G R lm) ∧ WP cd_Ne_relinks G R lm 148 = stp G R lm (81, 149, 0, 0, 0, 0, []) (WP cd_Ne_relinks G R lm) := ⟨WP_eq hG rfl, WP_eq hG rfl, WP_eq hG rfl, WP_eq hG rfl, WP_eq hG rfl, WP_eq hG rfl, WP_eq hG rfl, WP_eq hG rfl, WP_eq hG rfl, WP_eq hG rfl, WP_eq hG rfl, WP_eq hG rfl, WP_eq hG rfl, WP_eq hG rfl, WP_eq hG rfl, WP_eq hG rfl, WP_eq hG rfl, WP_eq hG rfl, WP_eq hG rfl, WP_eq hG rfl, WP_eq hG rfl, WP_eq hG rfl, WP_eq hG rfl, WP_eq hG rfl, WP_eq hG rfl, WP_eq hG rfl, WP_eq hG rfl, WP_eq hG rfl, WP_eq hG rfl, WP_eq hG rfl, WP_eq hG rfl, WP_eq hG rfl, WP_eq hG rfl, WP_eq hG rfl, WP_eq hG rfl, WP_eq hG rfl, WP_eq hG rfl, WP_eq hG rfl, WP_eq hG rfl, WP_eq hG rfl, WP_eq hG rfl, WP_eq hG rfl, WP_eq hG rfl, WP_eq hG rfl, WP_eq hG rfl, WP_eq hG rfl, WP_eq hG rfl, WP_eq hG rfl, WP_eq hG rfl, WP_eq hG rfl, WP_eq hG rfl, WP_eq hG rfl, WP_eq hG rfl, WP_eq hG rfl, WP_eq hG rfl, WP_eq hG rfl, WP_eq hG rfl, WP_eq hG rfl, WP_eq hG rfl, WP_eq hG rfl, WP_eq hG rfl, WP_eq hG rfl, WP_eq hG rfl, WP_eq hG rfl, WP_eq hG rfl, WP_eq hG rfl, WP_eq hG rfl, WP_eq hG rfl, WP_eq hG rfl, WP_eq hG rfl, WP_eq hG rfl, WP_eq hG rfl, WP_eq hG rfl, WP_eq hG rfl, WP_eq hG rfl, WP_eq hG rfl, WP_eq hG rfl, WP_eq hG rfl, WP_eq hG rfl, WP_eq hG rfl, WP_eq hG rfl, WP_eq hG rfl, WP_eq hG rfl, WP_eq hG rfl, WP_eq hG rfl, WP_eq hG rfl, WP_eq hG rfl, WP_eq hG rfl, WP_eq hG rfl, WP_eq hG rfl, WP_eq hG rfl, WP_eq hG rfl, WP_eq hG rfl, WP_eq hG rfl, WP_eq hG rfl, WP_eq hG rfl, WP_eq hG rfl, WP_eq hG rfl, WP_eq hG rfl, WP_eq hG rfl, WP_eq hG rfl⟩
theorem y_relinks (d n a b cn : Nat) (ha : a < 7) (hb : b < 7) (hab : a ≠ b) (hc : cn ≤ 50) {h0 h : MH} {p : RW} (X : XN h0 n h p) (v : IV p) (hne : ¬ gC p a b = nI cn) (Q : RT) (kk : ∀ h', XN h0 n h' (mLnk p a b (nI cn)) → Q (some (.int (gC p a b))) h') : callD (d + 6) 29 [.ref n, .int (nI a), .int (nI b), .int (nI cn)] h Q := by
  obtain ⟨sh, h24⟩ := X.2.1.all
  have n1 : 24 ≤ n + 1 := by omega
  have n2 : 24 ≤ n + 2 := by omega
  have n3 : 24 ≤ n + 3 := by omega
  obtain ⟨w3, gc3, gr3⟩ := lk3_wi ha hb hab hc v.1 hne
  have P3 := lk3_pl ha hb hab hc v hne
  obtain ⟨b1, b2, b3, b4, gc, gr, b5⟩ := lk1_base (had := gC p a b) ha hb hab hc v.1
  have hv : MVs (mLk1 p a b (nI cn) (gC p a b)) := fun i hi => by
    rw [b4] at hi
    obtain ⟨k, f, t, d, mv, -⟩ := b5 i hi
    exact ⟨k, f, t, d, mv⟩
  obtain ⟨x, x1, e1, e2, -⟩ := v.1.1.1 a b ha hb
  have hx : gC p a b = nI 0 → ¬ nI cn = nI 0 := fun e z => hne (e.trans z.symm)
  have T := fun (lm : Nat × Nat) (h' : MH) (Y : XN h0 n h' (mLk1 p a b (nI cn) (gC p a b))) => y_rl98 d n a b cn ha hb hab hc (gC p a b) Y b3 hv hx Q lm w3 P3 kk
  have ec := X.2.2.1 a b ha hb
  rw [E_Ne_relinks]
  by_cases c : gC p a b = nI 0 ∨ nI cn = nI 0
  · have hf1 : nI 0 < nI cn ↔ ¬ nI 0 < gC p a b := by
      rw [e1, eqI (by omega) (by omega), eqI (by omega) (by omega)] at c
      rw [e1, eqI (by omega) (by omega)] at hne
      rw [e1, ltI (by omega) (by omega), ltI (by omega) (by omega)]
      omega
    have hf2 : nI 0 < nI cn ↔ ¬ nI 0 < gC p b a := by rw [e2, ← e1]; exact hf1
    have X1 := ((X.lnk ha hb (nI cn) (up1 (up1 (hia h (n + 3)) a (hia h (n + 3) a ^^^ sh1 b)) b (hia h (n + 3) b ^^^ sh1 a)) (fun r hr => by
      rw [mNb_flip ha hb hab hr hf1 hf2, X.2.2.2.2.1 a ha, X.2.2.2.2.1 b hb]
      unfold up1
      split
      · rfl
      · split
        · rfl
        · exact X.2.2.2.2.1 r hr)).tol ha hb (nI 9999)).tol hb ha (nI 9999)
    rw [show up1 (up1 (mLk0 p a b (nI cn)) (56 + 7 * a + b) (nI 9999)) (56 + 7 * b + a) (nI 9999) = mLk1 p a b (nI cn) (gC p a b) from (if_pos c).symm] at X1
    simp (disch := omega) only [SG, SK, SM, sIA_c, up1_s, up1_n, up1_up1] at X1
    unfold sh1 at X1
    rcases c with c | c
    · simp (disch := omega) only [UC_Ne_relinks_98 (cm _), SA, SB, SG, SV, SK, SM, sIA_c, sh, n1, n2, n3, pk_mul, nI_add, nI_clamp, in_eq, ec, c, up1_s, up1_n, up1_up1, true_implies, not_true_eq_false, not_false_eq_true, false_implies, true_and, and_true]
      rw [c] at T X1
      exact T _ _ X1
    · by_cases c0 : gC p a b = nI 0
      · exact absurd (c0.trans c.symm) hne
      simp (disch := omega) only [UC_Ne_relinks_98 (cm _), SA, SB, SG, SV, SK, SM, sIA_c, sh, n1, n2, n3, pk_mul, nI_add, nI_clamp, in_eq, ec, c0, eq_true c, up1_s, up1_n, up1_up1, true_implies, not_true_eq_false, not_false_eq_true, false_implies, true_and, and_true]
      exact T _ _ X1
  · obtain ⟨c1, c2⟩ := not_or.mp c
    have hp : nI 0 < nI cn := by
      rw [eqI (by omega) (by omega)] at c2
      rw [ltI (by omega) (by omega)]; omega
    have hq : nI 0 < gC p a b := by
      rw [e1, eqI (by omega) (by omega)] at c1
      rw [e1, ltI (by omega) (by omega)]; omega
    have X1 := X.lnk0 ha hb (nI cn) ⟨fun _ => hq, fun _ => hp⟩ ⟨fun _ => by rw [e2, ← e1]; exact hq, fun _ => hp⟩
    rw [show mLk0 p a b (nI cn) = mLk1 p a b (nI cn) (gC p a b) from (if_neg c).symm] at X1
    simp (disch := omega) only [UC_Ne_relinks_98 (cm _), SA, SB, SG, SV, SK, SM, sIA_c, sh, n1, pk_mul, nI_add, nI_clamp, in_eq, ec, c1, c2, up1_s, up1_n, up1_up1, true_implies, not_true_eq_false, not_false_eq_true, false_implies, true_and, and_true]
    exact T _ _ X1
