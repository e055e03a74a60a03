/-! ===== links, messages heard, cuts keep it ===== -/
theorem ite_self2 {c : Prop} [Decidable c] {a b : Int32} (h : b = a) : (if c then a else b) = a := by
  split
  · rfl
  · exact h
theorem WI.bit {x : Int32} (hx : M7 x) {o : Nat} (ho : o < 7) : M7 (x &&& (sh1 o ^^^ (-1))) := (hx.an ho).1
theorem r_TL3 {p : RW} {N r : Nat} (hr : r < 7) (w : WI p N) (hN : N ≤ 860) (io : IO p r) (h3 : gR p r 3 = nI 1) : RES p (mTL3 p r) r (N + 7) := by
  unfold mTL3
  split
  · exact r_ends hr w hN io
  · exact ⟨w.mono (by omega), Sm.refl p r, io, fun e => absurd (h3.symm.trans e) n10⟩
theorem r_TL2 {p : RW} {N r o : Nat} (hr : r < 7) (w : WI p N) (hN : N ≤ 860) (io : IO p r) (h3 : gR p r 3 = nI 1) : RES p (mTL2 p r o) r (N + 7) := by
  unfold mTL2
  split
  · have w1 := w.up hr (j := 6) (v := nI 1) (by omega) (fun e => by omega) (fun e => by omega) (fun e => by omega) (fun e => by omega)
    have s1 := Sm.up p hr (j := 6) (by omega) (nI 1)
    exact (r_TL3 hr w1 hN (IO_c hr (gR_up (by omega)) s1.1 io) ((gR_up (by omega)).trans h3)).pre s1
  · exact r_TL3 hr w hN io h3
theorem r_TL {p : RW} {N r o : Nat} (hr : r < 7) (ho : o < 7) (w : WI p N) (hN : N ≤ 860) (hsub : ∀ a, a < 7 → a ≠ o → bt (gR p r 5) a = nI 1 → nI 0 < gC p r a) (ip : IP p r) (h0 : gR p 0 3 = nI 0) : RES p (mTL p r o) r (N + 7) := by
  obtain ⟨-, -, h3, m4, m5⟩ := w.1.2.2 r hr
  unfold mTL
  split
  · next e =>
    subst e
    exact ⟨w.mono (by omega), Sm.refl p 0, IO_0 (ip h0), ip⟩
  · split
    · next e => exact r_decide hr w hN m7_0 (fun o ho b => absurd ((bt_0 o ho).symm.trans b) n01) (IO_0 (ip e)) ip
    · next e =>
      have h31 := h3.resolve_left e
      unfold mTL1
      split
      · next ec =>
        have w1 := w.up hr (j := 5) (v := gR p r 5 &&& (sh1 o ^^^ (-1))) (by omega) (fun e => by omega) (fun e => by omega) (fun e => by omega) (fun _ => (m5.an ho).1)
        have w2 := w1.up hr (j := 4) (v := gR p r 4 &&& (sh1 o ^^^ (-1))) (by omega) (fun e => by omega) (fun e => by omega) (fun e => by omega) (fun _ => (m4.1.an ho).1) (fun _ => by rw [(m4.1.an ho).2 r hr]; exact ite_self2 m4.2)
        have s2 := (Sm.up p hr (j := 5) (by omega) (gR p r 5 &&& (sh1 o ^^^ (-1)))).trans (Sm.up _ hr (j := 4) (by omega) (gR p r 4 &&& (sh1 o ^^^ (-1))))
        refine (r_TL2 hr w2 hN (fun a ha b => ?_) ?_).pre s2
        · rw [s2.1 r a hr ha]
          rw [gR_up (by omega), show gR (up1 p (105 + 7 * r + 5) (gR p r 5 &&& (sh1 o ^^^ (-1)))) r 5 = gR p r 5 &&& (sh1 o ^^^ (-1)) from up1_s _ _ _, (m5.an ho).2 a ha] at b
          by_cases c : a = o
          · rw [if_pos c] at b; exact absurd b n01
          · rw [if_neg c] at b; exact hsub a ha c b
        · rw [gR_up (by omega), gR_up (by omega)]; exact h31
      · next ec =>
        refine r_TL2 hr w hN (fun a ha b => ?_) h31
        by_cases c : a = o
        · subst c; exact (w.1.1.pos hr ha).mp ec
        · exact hsub a ha c b
theorem r_TA {p : RW} {N r o k : Nat} (hr : r < 7) (ho : o < 7) (w : WI p N) (hN : N ≤ 860) (io : IO p r) (h3 : gR p r 3 = nI 1) (hl : nI 0 < gC p r o) : RES p (mTA p r o k) r (N + 7) := by
  obtain ⟨-, -, -, m4, m5⟩ := w.1.2.2 r hr
  have ip : ∀ q : RW, gR q r 3 = gR p r 3 → IP q r := fun q e z => absurd ((e.trans h3).symm.trans z) n10
  unfold mTA
  split
  · split
    · have w1 := w.up hr (j := 6) (v := nI 1) (by omega) (fun e => by omega) (fun e => by omega) (fun e => by omega) (fun e => by omega)
      have s1 := Sm.up p hr (j := 6) (by omega) (nI 1)
      exact ⟨w1.mono (by omega), s1, IO_c hr (gR_up (by omega)) s1.1 io, ip _ (gR_up (by omega))⟩
    · exact ⟨w.mono (by omega), Sm.refl p r, io, ip _ rfl⟩
  · split
    · split
      · have w1 := w.up hr (j := 5) (v := gR p r 5 ||| sh1 o) (by omega) (fun e => by omega) (fun e => by omega) (fun e => by omega) (fun _ => (m5.or ho).1)
        have w2 := w1.up hr (j := 6) (v := nI 1) (by omega) (fun e => by omega) (fun e => by omega) (fun e => by omega) (fun e => by omega)
        have s2 := (Sm.up p hr (j := 5) (by omega) (gR p r 5 ||| sh1 o)).trans (Sm.up _ hr (j := 6) (by omega) (nI 1))
        refine ⟨w2.mono (by omega), s2, fun a ha b => ?_, ip _ (by rw [gR_up (by omega), gR_up (by omega)])⟩
        rw [s2.1 r a hr ha]
        rw [gR_up (by omega), show gR (up1 p (105 + 7 * r + 5) (gR p r 5 ||| sh1 o)) r 5 = gR p r 5 ||| sh1 o from up1_s _ _ _, (m5.or ho).2 a ha] at b
        by_cases c : a = o
        · subst c; exact hl
        · rw [if_neg c] at b; exact io a ha b
      · have w1 := w.send1 (by omega) (k := 2) (by omega) hr ho hl
        exact ⟨w1.mono (by omega), ⟨fun a b ha hb => gC_send ha hb, fun s i hs hi e => gR_send hs hi⟩, IO_c hr (gR_send hr (by omega)) (fun a b ha hb => gC_send ha hb) io, ip _ (gR_send hr (by omega))⟩
    · have w1 := w.up hr (j := 4) (v := gR p r 4 &&& (sh1 o ^^^ (-1))) (by omega) (fun e => by omega) (fun e => by omega) (fun e => by omega) (fun _ => (m4.1.an ho).1) (fun _ => by rw [(m4.1.an ho).2 r hr]; exact ite_self2 m4.2)
      have s1 := Sm.up p hr (j := 4) (by omega) (gR p r 4 &&& (sh1 o ^^^ (-1)))
      exact (r_TL3 hr w1 hN (IO_c hr (gR_up (by omega)) s1.1 io) ((gR_up (by omega)).trans h3)).pre s1
/-- what was told is changed -/
theorem WI.tol {p : RW} {N : Nat} (w : WI p N) {r o d : Nat} (hr : r < 7) (ho : o < 7) (hd : d ≤ 9999) : WI (up1 p (56 + 7 * r + o) (nI d)) N := by
  obtain ⟨⟨c, t, s⟩, m, tm, q⟩ := w
  refine ⟨⟨IC_c (fun a b ha hb => gC_up (by omega)) c, fun a b ha hb => ?_, fun a ha => IR_c (fun j hj => gR_up (by omega)) (s a ha)⟩, fun i hi => ?_, ?_, ?_⟩
  · by_cases e : a = r ∧ b = o
    · obtain ⟨rfl, rfl⟩ := e
      exact ⟨d, hd, up1_s _ _ _⟩
    · rw [gT_up (by omega)]; exact t a b ha hb
  · rw [ql_up (by omega)] at hi
    obtain ⟨k, f, t', d, mv, l⟩ := m i hi
    have e := mv.2.2.1
    have e' := mv.2.1
    exact ⟨k, f, t', d, MV_c (fun c hc => up1_n _ _ (by omega)) mv, by rw [gC_up (by omega)]; exact l⟩
  · obtain ⟨a, a1, a2⟩ := tm
    exact ⟨a, a1, by rw [up1_n _ _ (by omega)]; exact a2⟩
  · rw [QL_up (by omega)]; exact q
theorem WI.out {p : RW} {N : Nat} (w : WI p N) (hN : N ≤ 900) {i : Nat} (hi : i < ql p) : WI (mOut p i) (N - 1) := by
  obtain ⟨⟨c, t, s⟩, m, tm, q⟩ := w
  have hq : ql (mOut p i) = ql p - 1 := ql_of mOut_6 (by have := q.2; omega)
  have gc : ∀ a b, a < 7 → b < 7 → gC (mOut p i) a b = gC p a b := fun a b ha hb => mOut_lo (by omega) (by omega)
  refine ⟨⟨IC_c gc c, IT_c (fun a b ha hb => mOut_lo (by omega) (by omega)) t, fun a ha => IR_c (fun j hj => mOut_lo (by omega) (by omega)) (s a ha)⟩, fun j hj => ?_, ?_, ?_⟩
  · rw [hq] at hj
    have hx : ∀ c, c < 4 → mOut p i (154 + 4 * j + c) = if j < i then p (154 + 4 * j + c) else p (154 + 4 * (j + 1) + c) := fun c hc => by
      unfold mOut shF
      by_cases e : j < i
      · rw [if_pos e, if_neg (by omega), up1_n _ _ (by omega)]
      · rw [if_neg e, if_pos (by omega), up1_n _ _ (by omega), show 154 + 4 * j + c + 4 = 154 + 4 * (j + 1) + c by omega]
    by_cases e : j < i
    · obtain ⟨k, f, t', d, mv, l⟩ := m j (by omega)
      exact ⟨k, f, t', d, MV_c (fun c hc => by rw [hx c hc, if_pos e]) mv, by rw [gc t' f mv.2.2.1 mv.2.1]; exact l⟩
    · obtain ⟨k, f, t', d, ⟨m1, m2, m3, m4, e1, e2, e3, e4⟩, l⟩ := m (j + 1) (by omega)
      have hz := hx 0 (by omega)
      rw [if_neg e] at hz
      refine ⟨k, f, t', d, ⟨m1, m2, m3, m4, hz.trans e1, ?_, ?_, ?_⟩, by rw [gc t' f m3 m2]; exact l⟩
      · rw [hx 1 (by omega), if_neg e]; exact e2
      · rw [hx 2 (by omega), if_neg e]; exact e3
      · rw [hx 3 (by omega), if_neg e]; exact e4
  · obtain ⟨a, a1, a2⟩ := tm
    exact ⟨a, a1, (mOut_lo (by omega) (by omega)).trans a2⟩
  · exact QL_of mOut_6 (by have := q.2; omega) (by omega)
theorem WI.tim {p : RW} {N : Nat} (w : WI p N) : WI (mTime p) N := by
  obtain ⟨⟨c, t, s⟩, m, ⟨tm, t1, t2⟩, q⟩ := w
  unfold mTime
  refine ⟨⟨IC_c (fun a b ha hb => gC_up (by omega)) c, IT_c (fun a b ha hb => gT_up (by omega)) t, fun a ha => IR_c (fun j hj => gR_up (by omega)) (s a ha)⟩, fun i hi => ?_, ?_, ?_⟩
  · rw [ql_up (by omega)] at hi
    obtain ⟨k, f, t', d, mv, l⟩ := m i hi
    exact ⟨k, f, t', d, MV_c (fun c hc => up1_n _ _ (by omega)) mv, by rw [gC_up (by omega)]; exact l⟩
  · refine ⟨if tm < 999 then tm + 1 else tm, by split <;> omega, (up1_s _ _ _).trans ?_⟩
    rw [t2]
    by_cases e : tm < 999
    · rw [if_pos e, if_pos (by rw [ltI (by omega) (by omega)]; exact e), nI_add]
    · rw [if_neg e, if_neg (by rw [ltI (by omega) (by omega)]; exact e), nI_add]; rfl
  · rw [QL_up (by omega)]; exact q
/-- an act of one router keeps what holds at rest -/
theorem IV.of {p q : RW} {r N : Nat} (v : ∀ s, s < 7 → IO p s ∧ IP p s) (h0 : gR p 0 3 = nI 0) (hr : r < 7) (hr0 : r = 0 → gR q 0 3 = nI 0) (x : RES p q r N) : (∀ s, s < 7 → IO q s ∧ IP q s) ∧ gR q 0 3 = nI 0 := by
  obtain ⟨w, s, io, ip⟩ := x
  refine ⟨fun a ha => ?_, ?_⟩
  · by_cases e : a = r
    · subst e; exact ⟨io, ip⟩
    · exact ⟨IO_c ha (s.2 a 5 ha (by omega) e) s.1 (v a ha).1, IP_c (s.2 a 5 ha (by omega) e) (s.2 a 3 ha (by omega) e) (v a ha).2⟩
  · by_cases e : r = 0
    · exact hr0 e
    · rw [s.2 0 3 (by omega) (by omega) (fun z => e z.symm)]; exact h0
theorem r_hear {p : RW} {N t f k : Nat} (ht : t < 7) (hf : f < 7) (w : WI p N) (hN : N ≤ 860) (v : ∀ s, s < 7 → IO p s ∧ IP p s) (h0 : gR p 0 3 = nI 0) (hl : nI 0 < gC p t f) : RES p (mHear p t f k) t (N + 7) ∧ (t = 0 → gR (mHear p t f k) 0 3 = nI 0) := by
  have hask : M7 (if k = 1 then sh1 f else nI 0) := by
    split
    · exact m7_sh f hf
    · exact m7_0
  have hs : ∀ o, o < 7 → bt (if k = 1 then sh1 f else nI 0) o = nI 1 → nI 0 < gC p t o := fun o ho b => by
    by_cases c : k = 1
    · rw [if_pos c] at b
      have := (bt_sh f hf o ho).mp b
      subst this; exact hl
    · rw [if_neg c, bt_0 o ho] at b
      exact absurd b n01
  unfold mHear
  split
  · next e =>
    have s1 := Sm.snd p (nI 2) t t (if k = 1 then sh1 f else nI 0)
    have e5 : gR (mSendAll p (nI 2) t (if k = 1 then sh1 f else nI 0)) t 5 = gR p t 5 := gR_sall ht (by omega)
    have e3 : gR (mSendAll p (nI 2) t (if k = 1 then sh1 f else nI 0)) t 3 = gR p t 3 := gR_sall ht (by omega)
    exact ⟨⟨(w.send (by omega) (k := 2) (by omega) ht hs).mono (by have := cnt_le (if k = 1 then sh1 f else nI 0); omega), s1, IO_c ht e5 s1.1 (v t ht).1, IP_c e5 e3 (v t ht).2⟩, fun _ => (gR_sall (by omega) (by omega)).trans h0⟩
  · next e =>
    refine ⟨?_, fun z => absurd z e⟩
    split
    · exact r_decide ht w hN hask hs (v t ht).1 (v t ht).2
    · next c => exact r_TA ht hf w hN (v t ht).1 ((w.1.2.2 t ht).2.2.1.resolve_left c) hl
theorem iv_lo {p q : RW} (gc : ∀ a b, a < 7 → b < 7 → gC q a b = gC p a b) (gr : ∀ a j, a < 7 → j < 7 → gR q a j = gR p a j) (v : ∀ s, s < 7 → IO p s ∧ IP p s) : ∀ s, s < 7 → IO q s ∧ IP q s := fun s hs => ⟨IO_c hs (gr s 5 hs (by omega)) gc (v s hs).1, IP_c (gr s 5 hs (by omega)) (gr s 3 hs (by omega)) (v s hs).2⟩
/-- a message is delivered -/
theorem iv_dlv {p : RW} {i k f t d : Nat} (v : IV p) (hi : i < ql p) (hm : MV p i k f t d) (hl : nI 0 < gC p t f) : WI (mDlv p i k f t d) 406 ∧ (∀ s, s < 7 → IO (mDlv p i k f t d) s ∧ IP (mDlv p i k f t d) s) ∧ gR (mDlv p i k f t d) 0 3 = nI 0 := by
  obtain ⟨w, v, h0⟩ := v
  obtain ⟨-, m2, m3, m4, -⟩ := hm
  have w1 := (w.tol m3 m2 m4).out (by omega) (i := i) (by rw [ql_up (by omega)]; exact hi)
  have gc : ∀ a b, a < 7 → b < 7 → gC (mOut (up1 p (56 + 7 * t + f) (nI d)) i) a b = gC p a b := fun a b ha hb => (mOut_lo (by omega) (by omega)).trans (gC_up (by omega))
  have gr : ∀ a j, a < 7 → j < 7 → gR (mOut (up1 p (56 + 7 * t + f) (nI d)) i) a j = gR p a j := fun a j ha hj => (mOut_lo (by omega) (by omega)).trans (gR_up (by omega))
  have v1 := iv_lo gc gr v
  have h01 : gR (mOut (up1 p (56 + 7 * t + f) (nI d)) i) 0 3 = nI 0 := (gr 0 3 (by omega) (by omega)).trans h0
  obtain ⟨R, R0⟩ := r_hear m3 m2 w1 (by omega) (k := k) v1 h01 (by rw [gc t f m3 m2]; exact hl)
  have V := IV.of v1 h01 m3 R0 R
  unfold mDlv
  refine ⟨R.1.tim, iv_lo (fun a b ha hb => gC_up (by omega)) (fun a j ha hj => gR_up (by omega)) V.1, (gR_up (by omega)).trans V.2⟩
theorem wi_cutT {r : Nat} (hr : r < 7) {s : Int32} : ∀ (m i : Nat) (p : RW) (N : Nat), i + m = 7 → WI p N → WI (itr (fun p o => if bt s o = nI 1 then up1 p (56 + 7 * r + o) (nI 9999) else p) i m p) N
  | 0, _, _, _, _, w => w
  | m + 1, i, p, N, hi, w => by
    rw [itr_s]
    by_cases c : bt s i = nI 1
    · rw [if_pos c]; exact wi_cutT hr m (i + 1) _ _ (by omega) (w.tol hr (by omega) (by omega))
    · rw [if_neg c]; exact wi_cutT hr m (i + 1) _ _ (by omega) w
theorem iv_cut {p : RW} {r : Nat} (hr : r < 7) (v : IV p) (h3 : gR p r 3 = nI 1) : WI (mCut p r) 407 ∧ (∀ s, s < 7 → IO (mCut p r) s ∧ IP (mCut p r) s) ∧ gR (mCut p r) 0 3 = nI 0 := by
  obtain ⟨w, v, h0⟩ := v
  have w1 : WI (mCutT p r (gR p r 4)) 400 := wi_cutT hr 7 0 p 400 (by omega) w
  have lo : ∀ j, j < 56 ∨ 105 ≤ j → mCutT p r (gR p r 4) j = p j := fun j hj => cutT_n r _ hr hj 7 0 p (by omega)
  have w2 := w1.up hr (j := 4) (v := nI 0) (by omega) (fun e => by omega) (fun e => by omega) (fun e => by omega) (fun _ => m7_0) (fun _ => bt_0 r hr)
  have w3 := w2.up hr (j := 6) (v := nI 0) (by omega) (fun e => by omega) (fun e => by omega) (fun e => by omega) (fun e => by omega)
  have s3 : Sm p (up1 (up1 (mCutT p r (gR p r 4)) (105 + 7 * r + 4) (nI 0)) (105 + 7 * r + 6) (nI 0)) r := ⟨fun a b ha hb => by rw [gC_up (by omega), gC_up (by omega)]; exact lo _ (by omega), fun a j ha hj e => by rw [gR_up (by omega), gR_up (by omega)]; exact lo _ (by omega)⟩
  have e5 : gR (up1 (up1 (mCutT p r (gR p r 4)) (105 + 7 * r + 4) (nI 0)) (105 + 7 * r + 6) (nI 0)) r 5 = gR p r 5 := by rw [gR_up (by omega), gR_up (by omega)]; exact lo _ (by omega)
  have R := (r_ends hr w3 (by omega) (IO_c hr e5 s3.1 (v r hr).1)).pre s3
  have V := IV.of v h0 hr (fun e => by subst e; exact absurd (h0.symm.trans h3) n01) R
  exact ⟨R.1, V⟩
