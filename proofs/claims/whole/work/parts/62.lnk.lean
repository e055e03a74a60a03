/-! ===== a link changes: the row ===== -/
def mLk0 (p : RW) (a b : Nat) (c : Int32) : RW := up1 (up1 p (7 + 7 * a + b) c) (7 + 7 * b + a) c
def mLk1 (p : RW) (a b : Nat) (c had : Int32) : RW := if had = nI 0 ∨ c = nI 0 then up1 (up1 (mLk0 p a b c) (56 + 7 * a + b) (nI 9999)) (56 + 7 * b + a) (nI 9999) else mLk0 p a b c
def mLk2 (q : RW) (a b : Nat) (had : Int32) : RW := if had = nI 0 then mSend (mSend q (nI 0) (nI a) (nI b) a) (nI 0) (nI b) (nI a) b else q
def mLk3 (q : RW) (a b : Nat) (c : Int32) : RW := if c = nI 0 then mLose q (nI a) (nI b) else q
def mLnk (p : RW) (a b : Nat) (c : Int32) : RW := mTL (mTL (mLk3 (mLk2 (mLk1 p a b c (gC p a b)) a b (gC p a b)) a b c) a b) b a
theorem gC_lk0 {p : RW} {a b r o : Nat} {c : Int32} (ha : a < 7) (hb : b < 7) (hr : r < 7) (ho : o < 7) : gC (mLk0 p a b c) r o = if (r = a ∧ o = b) ∨ (r = b ∧ o = a) then c else gC p r o := by
  unfold mLk0
  by_cases e2 : r = b ∧ o = a
  · obtain ⟨rfl, rfl⟩ := e2
    rw [if_pos (Or.inr ⟨rfl, rfl⟩)]; exact up1_s _ _ _
  · rw [gC_up (by omega)]
    by_cases e1 : r = a ∧ o = b
    · obtain ⟨rfl, rfl⟩ := e1
      rw [if_pos (Or.inl ⟨rfl, rfl⟩)]; exact up1_s _ _ _
    · rw [if_neg (by omega)]; exact gC_up (by omega)
theorem lk0_hi {p : RW} {a b j : Nat} {c : Int32} (ha : a < 7) (hb : b < 7) (hj : j < 7 ∨ 56 ≤ j) : mLk0 p a b c j = p j := by
  unfold mLk0
  rw [up1_n _ _ (by omega), up1_n _ _ (by omega)]
theorem m7ei {x y : Int32} (hx : M7 x) (hy : M7 y) (h : ∀ o, o < 7 → (bt x o = nI 1 ↔ bt y o = nI 1)) : x = y := hx.ext hy (fun o ho => by
  rcases hx.bt ho with e | e <;> rcases hy.bt ho with f | f
  · rw [e, f]
  · exact absurd (e.symm.trans ((h o ho).mpr f)) n01
  · exact absurd (f.symm.trans ((h o ho).mp e)) n01
  · rw [e, f])
theorem mNb_same {p : RW} {a b r : Nat} {c : Int32} (ha : a < 7) (hb : b < 7) (hr : r < 7) (h1 : nI 0 < c ↔ nI 0 < gC p a b) (h2 : nI 0 < c ↔ nI 0 < gC p b a) : mNb (mLk0 p a b c) r = mNb p r := m7ei (mNb_b _ r).1 (mNb_b p r).1 (fun o ho => by
  rw [(mNb_b _ r).2 o ho, (mNb_b p r).2 o ho, gC_lk0 ha hb hr ho]
  by_cases e : (r = a ∧ o = b) ∨ (r = b ∧ o = a)
  · rw [if_pos e]
    rcases e with ⟨rfl, rfl⟩ | ⟨rfl, rfl⟩
    · exact h1
    · exact h2
  · rw [if_neg e])
theorem xo_iff {x : Int32} (hx : M7 x) {k o : Nat} (hk : k < 7) (ho : o < 7) : bt (x ^^^ sh1 k) o = nI 1 ↔ (if o = k then ¬ bt x o = nI 1 else bt x o = nI 1) := by
  rw [(hx.xo hk).2 o ho]
  by_cases e : o = k
  · rw [if_pos e, if_pos e]
    rcases hx.bt ho with f | f <;> rw [f]
    · exact ⟨fun _ => n01, fun _ => by decide⟩
    · exact ⟨fun z => absurd z (by decide), fun z => absurd rfl z⟩
  · rw [if_neg e, if_neg e]
theorem mNb_flip {p : RW} {a b r : Nat} {c : Int32} (ha : a < 7) (hb : b < 7) (hab : a ≠ b) (hr : r < 7) (h1 : nI 0 < c ↔ ¬ nI 0 < gC p a b) (h2 : nI 0 < c ↔ ¬ nI 0 < gC p b a) : mNb (mLk0 p a b c) r = up1 (up1 (fun r => mNb p r) a (mNb p a ^^^ sh1 b)) b (mNb p b ^^^ sh1 a) r := by
  by_cases e1 : r = b
  · subst e1
    rw [up1_s]
    refine m7ei (mNb_b _ r).1 ((mNb_b p r).1.xo ha).1 (fun o ho => ?_)
    rw [(mNb_b _ r).2 o ho, xo_iff (mNb_b p r).1 ha ho, gC_lk0 ha hr hr ho]
    by_cases e : o = a
    · rw [if_pos e, if_pos (Or.inr ⟨rfl, e⟩), (mNb_b p r).2 o ho, e]; exact h2
    · rw [if_neg e, if_neg (by omega), (mNb_b p r).2 o ho]
  · rw [up1_n _ _ e1]
    by_cases e2 : r = a
    · subst e2
      rw [up1_s]
      refine m7ei (mNb_b _ r).1 ((mNb_b p r).1.xo hb).1 (fun o ho => ?_)
      rw [(mNb_b _ r).2 o ho, xo_iff (mNb_b p r).1 hb ho, gC_lk0 hr hb hr ho]
      by_cases e : o = b
      · rw [if_pos e, if_pos (Or.inl ⟨rfl, e⟩), (mNb_b p r).2 o ho, e]; exact h1
      · rw [if_neg e, if_neg (by omega), (mNb_b p r).2 o ho]
    · rw [up1_n _ _ e2]
      exact mNb_c (fun o ho => by rw [gC_lk0 ha hb hr ho, if_neg (by omega)])
theorem NeV.lnk {h : MH} {n : Nat} {p : RW} (V : NeV h n p) {a b : Nat} (ha : a < 7) (hb : b < 7) (c : Int32) (nr : Nat → Int32) (hnr : ∀ r, r < 7 → nr r = mNb (mLk0 p a b c) r) : NeV (sIA (sIA h (n + 1) (up1 (up1 (hia h (n + 1)) (a * 7 + b) c) (b * 7 + a) c)) (n + 3) nr) n (mLk0 p a b c) := by
  obtain ⟨v1, v2, v3, v4, v5, v6, v7, v8, v9, v10, v11, v12, v13⟩ := V
  have hx : ∀ q, q ≠ n + 1 → q ≠ n + 3 → hia (sIA (sIA h (n + 1) (up1 (up1 (hia h (n + 1)) (a * 7 + b) c) (b * 7 + a) c)) (n + 3) nr) q = hia h q := fun q e1 e2 => by rw [hia_n _ _ e2, hia_n _ _ e1]
  have gt : ∀ r o, r < 7 → o < 7 → gT (mLk0 p a b c) r o = gT p r o := fun r o hr ho => lk0_hi ha hb (by omega)
  have gr : ∀ r j, r < 7 → j < 7 → gR (mLk0 p a b c) r j = gR p r j := fun r j hr hj => lk0_hi ha hb (by omega)
  refine ⟨fun r o hr ho => ?_, fun r o hr ho => ?_, fun r hr => ?_, fun r hr => ?_, fun r hr => ?_, fun r hr => ?_, fun r hr => ?_, fun r hr => ?_, fun i hi => ?_, ?_, ?_, ?_, ?_⟩
  · rw [hia_n _ _ (by omega), hia_s, gC_lk0 ha hb hr ho]
    by_cases e2 : r = b ∧ o = a
    · obtain ⟨rfl, rfl⟩ := e2
      rw [if_pos (Or.inr ⟨rfl, rfl⟩)]; exact up1_s _ _ _
    · rw [up1_n _ _ (by omega)]
      by_cases e1 : r = a ∧ o = b
      · obtain ⟨rfl, rfl⟩ := e1
        rw [if_pos (Or.inl ⟨rfl, rfl⟩)]; exact up1_s _ _ _
      · rw [if_neg (by omega), up1_n _ _ (by omega)]; exact v1 r o hr ho
  · rw [hx _ (by omega) (by omega), gt r o hr ho]; exact v2 r o hr ho
  · rw [hia_s]; exact hnr r hr
  · rw [hx _ (by omega) (by omega), gr r 0 hr (by omega)]; exact v4 r hr
  · rw [hx _ (by omega) (by omega), gr r 1 hr (by omega)]; exact v5 r hr
  · rw [hx _ (by omega) (by omega), gr r 2 hr (by omega)]; exact v6 r hr
  · rw [hx _ (by omega) (by omega), gr r 4 hr (by omega)]; exact v7 r hr
  · rw [hx _ (by omega) (by omega), gr r 5 hr (by omega)]; exact v8 r hr
  · have eq : ql (mLk0 p a b c) = ql p := by unfold ql; rw [lk0_hi ha hb (by omega)]
    rw [eq] at hi
    rw [hx _ (by omega) (by omega), v9 i hi]
    unfold pk
    rw [lk0_hi ha hb (by omega), lk0_hi ha hb (by omega), lk0_hi ha hb (by omega), lk0_hi ha hb (by omega)]
  · exact v10.trans (lk0_hi ha hb (by omega)).symm
  · exact bits7_c (fun r hr => gr r 3 hr (by omega)) v11
  · exact bits7_c (fun r hr => gr r 6 hr (by omega)) v12
  · exact v13.trans (lk0_hi ha hb (by omega)).symm
theorem NF.i2 {n : Nat} (h : MH) (f g : Nat → Int32) : NF n h (sIA (sIA h (n + 1) f) (n + 3) g) := (NF.i (n := n) (a := n + 1) h f (by omega) (by omega)).trans (NF.i (n := n) (a := n + 3) _ g (by omega) (by omega))
theorem XN.lnk {h0 h : MH} {n : Nat} {p : RW} (X : XN h0 n h p) {a b : Nat} (ha : a < 7) (hb : b < 7) (c : Int32) (nr : Nat → Int32) (hnr : ∀ r, r < 7 → nr r = mNb (mLk0 p a b c) r) : XN h0 n (sIA (sIA h (n + 1) (up1 (up1 (hia h (n + 1)) (a * 7 + b) c) (b * 7 + a) c)) (n + 3) nr) (mLk0 p a b c) :=
  ⟨X.1.trans (NF.i2 h _ _), (NF.i2 (n := n) h _ _).S X.2.1, X.2.2.lnk ha hb c nr hnr⟩
theorem XN.lnk0 {h0 h : MH} {n : Nat} {p : RW} (X : XN h0 n h p) {a b : Nat} (ha : a < 7) (hb : b < 7) (c : Int32) (h1 : nI 0 < c ↔ nI 0 < gC p a b) (h2 : nI 0 < c ↔ nI 0 < gC p b a) : XN h0 n (sIA h (n + 1) (up1 (up1 (hia h (n + 1)) (a * 7 + b) c) (b * 7 + a) c)) (mLk0 p a b c) := by
  have e : sIA (sIA h (n + 1) (up1 (up1 (hia h (n + 1)) (a * 7 + b) c) (b * 7 + a) c)) (n + 3) (hia h (n + 3)) = sIA h (n + 1) (up1 (up1 (hia h (n + 1)) (a * 7 + b) c) (b * 7 + a) c) := by
    have := sIA_id (sIA h (n + 1) (up1 (up1 (hia h (n + 1)) (a * 7 + b) c) (b * 7 + a) c)) (n + 3)
    rw [hia_n _ _ (by omega)] at this
    exact this
  rw [← e]
  exact X.lnk ha hb c _ (fun r hr => by rw [mNb_same ha hb hr h1 h2]; exact X.2.2.2.2.1 r hr)
/-! ===== messages lost ===== -/
theorem los_inv (x y : Int32) (p : RW) (N : Nat) : ∀ (m i : Nat) (q : RW) (a : Nat), i + m = N → a ≤ i → (∀ j, j < 154 → q j = p j) → (∀ j, i ≤ j → j < N → ∀ c, c < 4 → q (154 + 4 * j + c) = p (154 + 4 * j + c)) → (∀ b, b < a → ∃ j, j < N ∧ ¬ isL p x y j ∧ ∀ c, c < 4 → q (154 + 4 * b + c) = p (154 + 4 * j + c)) →
    (∀ j, j < 154 → (itr (losG x y) i m (q, a)).1 j = p j) ∧ (itr (losG x y) i m (q, a)).2 ≤ N ∧ ∀ b, b < (itr (losG x y) i m (q, a)).2 → ∃ j, j < N ∧ ¬ isL p x y j ∧ ∀ c, c < 4 → (itr (losG x y) i m (q, a)).1 (154 + 4 * b + c) = p (154 + 4 * j + c)
  | 0, i, q, a, hi, ha, lo, h1, h2 => ⟨lo, by show a ≤ N; omega, h2⟩
  | m + 1, i, q, a, hi, ha, lo, h1, h2 => by
    rw [itr_s]
    have e1 := h1 i (by omega) (by omega) 1 (by omega)
    have e2 := h1 i (by omega) (by omega) 2 (by omega)
    by_cases c : isL q x y i
    · rw [show losG x y (q, a) i = (q, a) from if_pos c]
      exact los_inv x y p N m (i + 1) q a (by omega) (by omega) lo (fun j hj => h1 j (by omega)) h2
    · rw [show losG x y (q, a) i = (mv4 q a i, a + 1) from if_neg c]
      refine los_inv x y p N m (i + 1) _ _ (by omega) (by omega) (fun j hj => (mv4_lo hj).trans (lo j hj)) (fun j hj hj2 c hc => ?_) (fun b hb => ?_)
      · rw [mv4_at hc, if_neg (by omega)]; exact h1 j (by omega) hj2 c hc
      · by_cases e : b = a
        · refine ⟨i, by omega, ?_, fun c hc => ?_⟩
          · unfold isL at c ⊢
            rw [e1, e2] at c
            exact c
          · rw [mv4_at hc, if_pos e]; exact h1 i (by omega) (by omega) c hc
        · obtain ⟨j, j1, j2, j3⟩ := h2 b (by omega)
          exact ⟨j, j1, j2, fun c hc => by rw [mv4_at hc, if_neg e]; exact j3 c hc⟩
theorem wi_lose {p : RW} {a b : Nat} (ha : a < 7) (hb : b < 7) (base : IC p ∧ IT p ∧ (∀ r, r < 7 → IR p r)) (tm : ITm p) (hQ : QL p 400) (hm : ∀ i, i < ql p → ∃ k f t d, MV p i k f t d ∧ (((f = a ∧ t = b) ∨ (f = b ∧ t = a)) ∨ nI 0 < gC p t f)) : WI (mLose p (nI a) (nI b)) 400 ∧ ∀ j, j < 154 → j ≠ 6 → mLose p (nI a) (nI b) j = p j := by
  obtain ⟨l1, l2, l3⟩ := los_inv (nI a) (nI b) p (ql p) (ql p) 0 p 0 (by omega) (by omega) (fun _ _ => rfl) (fun _ _ _ _ _ => rfl) (fun b hb => by omega)
  have h6 : mLose p (nI a) (nI b) 6 = nI (itr (losG (nI a) (nI b)) 0 (ql p) (p, 0)).2 := up1_s _ _ _
  have lo : ∀ j, j < 154 → j ≠ 6 → mLose p (nI a) (nI b) j = p j := fun j hj h => by unfold mLose; rw [up1_n _ _ h]; exact l1 j hj
  have hq : ql (mLose p (nI a) (nI b)) = (itr (losG (nI a) (nI b)) 0 (ql p) (p, 0)).2 := ql_of h6 (by have := hQ.2; omega)
  have gc : ∀ r o, r < 7 → o < 7 → gC (mLose p (nI a) (nI b)) r o = gC p r o := fun r o hr ho => lo _ (by omega) (by omega)
  refine ⟨⟨⟨IC_c gc base.1, IT_c (fun r o hr ho => lo _ (by omega) (by omega)) base.2.1, fun r hr => IR_c (fun j hj => lo _ (by omega) (by omega)) (base.2.2 r hr)⟩, fun i hi => ?_, ?_, QL_of h6 (Nat.le_trans l2 hQ.2) (by omega)⟩, lo⟩
  · rw [hq] at hi
    obtain ⟨j, j1, j2, j3⟩ := l3 i hi
    obtain ⟨k, f, t, d, mv, l⟩ := hm j j1
    have nl : ¬ ((f = a ∧ t = b) ∨ (f = b ∧ t = a)) := fun z => j2 ((isL_iff mv ha hb).mpr z)
    obtain ⟨m1, m2, m3, m4, e1, e2, e3, e4⟩ := mv
    have hx : ∀ c, c < 4 → mLose p (nI a) (nI b) (154 + 4 * i + c) = p (154 + 4 * j + c) := fun c hc => by unfold mLose; rw [up1_n _ _ (by omega)]; exact j3 c hc
    exact ⟨k, f, t, d, ⟨m1, m2, m3, m4, (hx 0 (by omega)).trans e1, (hx 1 (by omega)).trans e2, (hx 2 (by omega)).trans e3, (hx 3 (by omega)).trans e4⟩, by rw [gc t f m3 m2]; exact l.resolve_left nl⟩
  · obtain ⟨t, t1, t2⟩ := tm
    exact ⟨t, t1, (lo 5 (by omega) (by omega)).trans t2⟩
