theorem lk1_gen {p : RW} {a b : Nat} {c had : Int32} (ha : a < 7) (hb : b < 7) : (∀ j, j < 56 ∨ 105 ≤ j → mLk1 p a b c had j = mLk0 p a b c j) ∧ ∀ r o, r < 7 → o < 7 → gT (mLk1 p a b c had) r o = gT p r o ∨ gT (mLk1 p a b c had) r o = nI 9999 := by
  unfold mLk1
  split
  · refine ⟨fun j hj => by rw [up1_n _ _ (by omega), up1_n _ _ (by omega)], fun r o hr ho => ?_⟩
    by_cases e2 : r = b ∧ o = a
    · obtain ⟨rfl, rfl⟩ := e2
      exact Or.inr (up1_s _ _ _)
    · rw [gT_up (by omega)]
      by_cases e1 : r = a ∧ o = b
      · obtain ⟨rfl, rfl⟩ := e1
        exact Or.inr (up1_s _ _ _)
      · rw [gT_up (by omega)]; exact Or.inl (lk0_hi ha hb (by omega))
  · exact ⟨fun _ _ => rfl, fun r o hr ho => Or.inl (lk0_hi ha hb (by omega))⟩
theorem lk1_base {p : RW} {N a b cn : Nat} {had : Int32} (ha : a < 7) (hb : b < 7) (hab : a ≠ b) (hc : cn ≤ 50) (w : WI p N) : (IC (mLk1 p a b (nI cn) had) ∧ IT (mLk1 p a b (nI cn) had) ∧ (∀ r, r < 7 → IR (mLk1 p a b (nI cn) had) r)) ∧ ITm (mLk1 p a b (nI cn) had) ∧ QL (mLk1 p a b (nI cn) had) N ∧ ql (mLk1 p a b (nI cn) had) = ql p ∧
    (∀ r o, r < 7 → o < 7 → gC (mLk1 p a b (nI cn) had) r o = if (r = a ∧ o = b) ∨ (r = b ∧ o = a) then nI cn else gC p r o) ∧ (∀ r j, r < 7 → j < 7 → gR (mLk1 p a b (nI cn) had) r j = gR p r j) ∧ ∀ i, i < ql p → ∃ k f t d, MV (mLk1 p a b (nI cn) had) i k f t d ∧ nI 0 < gC p t f := by
  obtain ⟨lo, lt⟩ := lk1_gen (p := p) (c := nI cn) (had := had) ha hb
  obtain ⟨⟨c, t, s⟩, m, ⟨tm, t1, t2⟩, q⟩ := w
  have gc : ∀ r o, r < 7 → o < 7 → gC (mLk1 p a b (nI cn) had) r o = if (r = a ∧ o = b) ∨ (r = b ∧ o = a) then nI cn else gC p r o := fun r o hr ho => by
    rw [show gC (mLk1 p a b (nI cn) had) r o = gC (mLk0 p a b (nI cn)) r o from lo _ (by omega), gC_lk0 ha hb hr ho]
  have hi : ∀ j, j < 7 ∨ 105 ≤ j → mLk1 p a b (nI cn) had j = p j := fun j hj => (lo j (by omega)).trans (lk0_hi ha hb (by omega))
  have gr : ∀ r j, r < 7 → j < 7 → gR (mLk1 p a b (nI cn) had) r j = gR p r j := fun r j hr hj => hi _ (by omega)
  have hq : ql (mLk1 p a b (nI cn) had) = ql p := by unfold ql; rw [hi 6 (by omega)]
  refine ⟨⟨fun r o hr ho => ?_, fun r o hr ho => ?_, fun r hr => IR_c (fun j hj => gr r j hr hj) (s r hr)⟩, ⟨tm, t1, (hi 5 (by omega)).trans t2⟩, ?_, hq, gc, gr, fun i hi' => ?_⟩
  · by_cases e : (r = a ∧ o = b) ∨ (r = b ∧ o = a)
    · exact ⟨cn, hc, by rw [gc r o hr ho, if_pos e], by rw [gc o r ho hr, if_pos (by omega)], fun z => by omega⟩
    · obtain ⟨x, x1, e1, e2, e3⟩ := c r o hr ho
      exact ⟨x, x1, by rw [gc r o hr ho, if_neg e]; exact e1, by rw [gc o r ho hr, if_neg (by omega)]; exact e2, e3⟩
  · rcases lt r o hr ho with e | e
    · rw [e]; exact t r o hr ho
    · exact ⟨9999, by omega, e⟩
  · rw [QL_eq (hi 6 (by omega))]; exact q
  · obtain ⟨k, f, t', d, mv, l⟩ := m i hi'
    exact ⟨k, f, t', d, MV_c (fun c hc => hi _ (by omega)) mv, l⟩
theorem lk3_wi {p : RW} {a b cn : Nat} (ha : a < 7) (hb : b < 7) (hab : a ≠ b) (hc : cn ≤ 50) (w : WI p 400) (hne : ¬ gC p a b = nI cn) : WI (mLk3 (mLk2 (mLk1 p a b (nI cn) (gC p a b)) a b (gC p a b)) a b (nI cn)) 402 ∧
    (∀ r o, r < 7 → o < 7 → gC (mLk3 (mLk2 (mLk1 p a b (nI cn) (gC p a b)) a b (gC p a b)) a b (nI cn)) r o = if (r = a ∧ o = b) ∨ (r = b ∧ o = a) then nI cn else gC p r o) ∧ (∀ r j, r < 7 → j < 7 → gR (mLk3 (mLk2 (mLk1 p a b (nI cn) (gC p a b)) a b (gC p a b)) a b (nI cn)) r j = gR p r j) := by
  obtain ⟨b1, b2, b3, b4, gc, gr, b5⟩ := lk1_base (had := gC p a b) ha hb hab hc w
  by_cases c0 : cn = 0
  · subst c0
    have h0 : ¬ gC p a b = nI 0 := hne
    unfold mLk3 mLk2
    rw [if_pos rfl, if_neg h0]
    obtain ⟨w1, lo⟩ := wi_lose ha hb b1 b2 b3 (fun i hi => by
      rw [b4] at hi
      obtain ⟨k, f, t, d, mv, l⟩ := b5 i hi
      refine ⟨k, f, t, d, mv, ?_⟩
      by_cases e : (f = a ∧ t = b) ∨ (f = b ∧ t = a)
      · exact Or.inl e
      · right; rw [gc t f mv.2.2.1 mv.2.1, if_neg (by omega)]; exact l)
    exact ⟨w1.mono (by omega), fun r o hr ho => (lo _ (by omega) (by omega)).trans (gc r o hr ho), fun r j hr hj => (lo _ (by omega) (by omega)).trans (gr r j hr hj)⟩
  · have hc0 : ¬ nI cn = nI 0 := by rw [eqI (by omega) (by omega)]; exact c0
    have hp : nI 0 < nI cn := by rw [ltI (by omega) (by omega)]; omega
    have w1 : WI (mLk1 p a b (nI cn) (gC p a b)) 400 := ⟨b1, fun i hi => by
      rw [b4] at hi
      obtain ⟨k, f, t, d, mv, l⟩ := b5 i hi
      refine ⟨k, f, t, d, mv, ?_⟩
      rw [gc t f mv.2.2.1 mv.2.1]
      split
      · exact hp
      · exact l, b2, b3⟩
    unfold mLk3 mLk2
    rw [if_neg hc0]
    split
    · have g1 : gC (mLk1 p a b (nI cn) (gC p a b)) a b = nI cn := by rw [gc a b ha hb, if_pos (Or.inl ⟨rfl, rfl⟩)]
      have g2 : gC (mLk1 p a b (nI cn) (gC p a b)) b a = nI cn := by rw [gc b a hb ha, if_pos (Or.inr ⟨rfl, rfl⟩)]
      have w2 := w1.send1 (by omega) (k := 0) (by omega) ha hb (by rw [g1]; exact hp)
      have w3 := w2.send1 (by omega) (k := 0) (by omega) hb ha (by rw [gC_send hb ha, g2]; exact hp)
      exact ⟨w3, fun r o hr ho => by rw [gC_send hr ho, gC_send hr ho]; exact gc r o hr ho, fun r j hr hj => by rw [gR_send hr hj, gR_send hr hj]; exact gr r j hr hj⟩
    · exact ⟨w1.mono (by omega), gc, gr⟩
/-- what both ends of a changed link need -/
def PL (q : RW) (a b : Nat) : Prop := (∀ k, k < 7 → k ≠ b → bt (gR q a 5) k = nI 1 → nI 0 < gC q a k) ∧ (∀ k, k < 7 → k ≠ a → bt (gR q b 5) k = nI 1 → nI 0 < gC q b k) ∧ (∀ s, s < 7 → IP q s) ∧ gR q 0 3 = nI 0
theorem lk3_pl {p : RW} {a b cn : Nat} (ha : a < 7) (hb : b < 7) (hab : a ≠ b) (hc : cn ≤ 50) (v : IV p) (hne : ¬ gC p a b = nI cn) : PL (mLk3 (mLk2 (mLk1 p a b (nI cn) (gC p a b)) a b (gC p a b)) a b (nI cn)) a b := by
  obtain ⟨w, gc, gr⟩ := lk3_wi ha hb hab hc v.1 hne
  obtain ⟨-, v, h0⟩ := v
  refine ⟨fun k hk e z => ?_, fun k hk e z => ?_, fun s hs => IP_c (gr s 5 hs (by omega)) (gr s 3 hs (by omega)) (v s hs).2, (gr 0 3 (by omega) (by omega)).trans h0⟩
  · rw [gc a k ha hk, if_neg (by omega)]
    rw [gr a 5 ha (by omega)] at z
    exact (v a ha).1 k hk z
  · rw [gc b k hb hk, if_neg (by omega)]
    rw [gr b 5 hb (by omega)] at z
    exact (v b hb).1 k hk z
theorem PL.next {q : RW} {a b N : Nat} (ha : a < 7) (hb : b < 7) (hab : a ≠ b) (P : PL q a b) (R : RES q (mTL q a b) a N) : (∀ k, k < 7 → k ≠ a → bt (gR (mTL q a b) b 5) k = nI 1 → nI 0 < gC (mTL q a b) b k) ∧ (∀ s, s < 7 → IP (mTL q a b) s) ∧ gR (mTL q a b) 0 3 = nI 0 := by
  obtain ⟨p1, p2, p3, p4⟩ := P
  obtain ⟨-, s, -, ip⟩ := R
  refine ⟨fun k hk e z => ?_, fun x hx => ?_, ?_⟩
  · rw [s.1 b k hb hk]
    rw [s.2 b 5 hb (by omega) (fun e => hab e.symm)] at z
    exact p2 k hk e z
  · by_cases e : x = a
    · subst e; exact ip
    · exact IP_c (s.2 x 5 hx (by omega) e) (s.2 x 3 hx (by omega) e) (p3 x hx)
  · by_cases e : a = 0
    · subst e
      unfold mTL
      rw [if_pos rfl]; exact p4
    · rw [s.2 0 3 (by omega) (by omega) (fun z => e z.symm)]; exact p4
theorem iv_lnk {p : RW} {a b cn : Nat} (ha : a < 7) (hb : b < 7) (hab : a ≠ b) (hc : cn ≤ 50) (v : IV p) (hne : ¬ gC p a b = nI cn) : WI (mLnk p a b (nI cn)) 416 ∧ (∀ s, s < 7 → IO (mLnk p a b (nI cn)) s ∧ IP (mLnk p a b (nI cn)) s) ∧ gR (mLnk p a b (nI cn)) 0 3 = nI 0 := by
  obtain ⟨w, gc, gr⟩ := lk3_wi ha hb hab hc v.1 hne
  have P := lk3_pl ha hb hab hc v hne
  unfold mLnk
  generalize (mLk3 (mLk2 (mLk1 p a b (nI cn) (gC p a b)) a b (gC p a b)) a b (nI cn)) = q at *
  have R1 := r_TL ha hb w (by omega) P.1 (P.2.2.1 a ha) P.2.2.2
  obtain ⟨n1, n2, n3⟩ := P.next ha hb hab R1
  have R2 := r_TL hb ha R1.1 (by omega) n1 (n2 b hb) n3
  refine ⟨R2.1, fun s hs => ⟨?_, ?_⟩, ?_⟩
  · by_cases e : s = b
    · subst e; exact R2.2.2.1
    · refine IO_c hs (R2.2.1.2 s 5 hs (by omega) e) R2.2.1.1 ?_
      by_cases e2 : s = a
      · subst e2; exact R1.2.2.1
      · refine IO_c hs (R1.2.1.2 s 5 hs (by omega) e2) R1.2.1.1 (fun o ho z => ?_)
        rw [gc s o hs ho, if_neg (by omega)]
        rw [gr s 5 hs (by omega)] at z
        exact (v.2.1 s hs).1 o ho z
  · by_cases e : s = b
    · subst e; exact R2.2.2.2
    · exact IP_c (R2.2.1.2 s 5 hs (by omega) e) (R2.2.1.2 s 3 hs (by omega) e) (n2 s hs)
  · by_cases e : b = 0
    · subst e
      show gR (if (0 : Nat) = 0 then mTL q a 0 else _) 0 3 = nI 0
      rw [if_pos rfl]; exact n3
    · rw [R2.2.1.2 0 3 (by omega) (by omega) (fun z => e z.symm)]; exact n3
/-! ===== the program's relinks ===== -/
theorem y_rl134 (d n a b : Nat) (ha : a < 7) (hb : b < 7) (hab : a ≠ b) (c had : Int32) {h0 h : MH} {q : RW} (X : XN h0 n h q) (w : WI q 402) (P : PL q a b) (Q : RT) (lm : Nat × Nat) (kk : ∀ h', XN h0 n h' (mTL (mTL q a b) b a) → Q (some (.int had)) h') : WP cd_Ne_relinks (callD (d + 5)) Q lm 134 [] [some (.ref n), some (.int (nI a)), some (.int (nI b)), some (.int c), some (.int had)] h := by
  have R1 := r_TL ha hb w (by omega) P.1 (P.2.2.1 a ha) P.2.2.2
  obtain ⟨n1, n2, n3⟩ := P.next ha hb hab R1
  obtain ⟨sh, -⟩ := X.2.1.all
  simp (disch := omega) only [U_Ne_relinks (cm _), SA, SB, SC1, SC2, SG, SV, sh, true_and]
  refine y_takesChange d n a b ha hb X (QL_mono w.2.2.2 (by omega)) w.1.1.CN (w.1.2.2 a ha).2.1 (w.1.2.2 a ha).2.2.2.2 P.1 _ (fun h1 X1 => ?_)
  obtain ⟨sh1', -⟩ := X1.2.1.all
  simp (disch := omega) only [U_Ne_relinks (cm _), SA, SB, SC1, SC2, SG, SV, sh1', true_and]
  refine y_takesChange d n b a hb ha X1 (QL_mono R1.1.2.2.2 (by omega)) R1.1.1.1.CN (R1.1.1.2.2 b hb).2.1 (R1.1.1.2.2 b hb).2.2.2.2 n1 _ (fun h2 X2 => ?_)
  simp (disch := omega) only [U_Ne_relinks (cm _), SA, SB, SC1, SC2, SG, SV]
  exact kk h2 X2
theorem y_rl98 (d n a b cn : Nat) (ha : a < 7) (hb : b < 7) (hab : a ≠ b) (hc : cn ≤ 50) (had : Int32) {h0 h : MH} {q : RW} (X : XN h0 n h q) (hQ : QL q 400) (hv : MVs q) (hx : had = nI 0 → ¬ nI cn = nI 0) (Q : RT) (lm : Nat × Nat) (w : WI (mLk3 (mLk2 q a b had) a b (nI cn)) 402) (P : PL (mLk3 (mLk2 q a b had) a b (nI cn)) a b) (kk : ∀ h', XN h0 n h' (mTL (mTL (mLk3 (mLk2 q a b had) a b (nI cn)) a b) b a) → Q (some (.int had)) h') : WP cd_Ne_relinks (callD (d + 5)) Q lm 98 [] [some (.ref n), some (.int (nI a)), some (.int (nI b)), some (.int (nI cn)), some (.int had)] h := by
  obtain ⟨sh, -⟩ := X.2.1.all
  have T := fun h' Y => y_rl134 d n a b ha hb hab (nI cn) had (h0 := h0) (h := h') (q := mLk3 (mLk2 q a b had) a b (nI cn)) Y w P Q lm kk
  unfold mLk3 mLk2 at T
  by_cases c1 : had = nI 0
  · have c2 := hx c1
    subst c1
    rw [if_neg c2, if_pos rfl] at T
    rw [← sall_1 q (nI 0) a hb] at T
    rw [← sall_1 (mSendAll q (nI 0) a (sh1 b)) (nI 0) b ha] at T
    have Y1 := y_sends (d + 4) n a ha (nI 0) (sh1 b) X hQ.1 (by have := cnt_le (sh1 b); have := hQ.2; omega)
    have hQ1 : QL (mSendAll q (nI 0) a (sh1 b)) 407 := QL_send hQ (by omega)
    unfold sh1 at Y1
    simp (disch := omega) only [U_Ne_relinks (cm _), SA, SB, SC1, SC2, SG, SV, sh, true_and, true_implies, not_true_eq_false, false_implies, and_true]
    refine Y1 _ (fun h1 X1 => ?_)
    obtain ⟨sh1', -⟩ := X1.2.1.all
    have Y2 := y_sends (d + 4) n b hb (nI 0) (sh1 a) X1 hQ1.1 (by have := cnt_le (sh1 a); have := hQ1.2; omega)
    unfold sh1 at Y2 T
    simp (disch := omega) only [U_Ne_relinks (cm _), SA, SB, SC1, SC2, SG, SV, sh1', true_and]
    refine Y2 _ (fun h2 X2 => ?_)
    have T2 := T h2 X2
    simp (disch := omega) only [↓eq_true T2, U_Ne_relinks (cm _), SA, SB, SC1, SC2, SG, SV]
  · rw [if_neg c1] at T
    by_cases c2 : nI cn = nI 0
    · rw [if_pos c2] at T
      simp (disch := omega) only [U_Ne_relinks (cm _), SA, SB, SC1, SC2, SG, SV, sh, c1, eq_true c2, true_and, true_implies, not_true_eq_false, not_false_eq_true, false_implies, and_true]
      refine y_loses (d + 3) n a b ha hb X (QL_mono hQ (by omega)) hv _ (fun h1 X1 => ?_)
      have T2 := T h1 X1
      rw [c2] at T2
      simp (disch := omega) only [SV]
      first | exact T2 | (rw [c2]; exact T2)
    · rw [if_neg c2] at T
      have T2 := T h X
      simp (disch := omega) only [↓eq_true T2, U_Ne_relinks (cm _), SA, SB, SC1, SC2, SG, SV, c1, c2, true_and, true_implies, not_true_eq_false, not_false_eq_true, false_implies, and_true]
