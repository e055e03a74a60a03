/-! ===== what holds of a row at rest ===== -/
def IC (p : RW) : Prop := ∀ r o, r < 7 → o < 7 → ∃ c, c ≤ 50 ∧ gC p r o = nI c ∧ gC p o r = nI c ∧ (r = o → c = 0)
def IT (p : RW) : Prop := ∀ r o, r < 7 → o < 7 → ∃ t, t ≤ 9999 ∧ gT p r o = nI t
def N7 (x : Int32) (r : Nat) : Prop := M7 x ∧ bt x r = nI 0
def IR (p : RW) (r : Nat) : Prop := (∃ d, d ≤ 9999 ∧ gR p r 0 = nI d) ∧ SU (gR p r 2) ∧ (gR p r 3 = nI 0 ∨ gR p r 3 = nI 1) ∧ N7 (gR p r 4) r ∧ M7 (gR p r 5)
def IO (p : RW) (r : Nat) : Prop := ∀ o, o < 7 → bt (gR p r 5) o = nI 1 → nI 0 < gC p r o
def IP (p : RW) (r : Nat) : Prop := gR p r 3 = nI 0 → gR p r 5 = nI 0
def IM (p : RW) : Prop := ∀ i, i < ql p → ∃ k f t d, MV p i k f t d ∧ nI 0 < gC p t f
def ITm (p : RW) : Prop := ∃ t, t ≤ 999 ∧ p 5 = nI t
def WI (p : RW) (N : Nat) : Prop := (IC p ∧ IT p ∧ (∀ r, r < 7 → IR p r)) ∧ IM p ∧ ITm p ∧ QL p N
def IV (p : RW) : Prop := WI p 400 ∧ (∀ r, r < 7 → IO p r ∧ IP p r) ∧ gR p 0 3 = nI 0
theorem WI.mono {p : RW} {N M : Nat} (w : WI p N) (h : N ≤ M) : WI p M := ⟨w.1, w.2.1, w.2.2.1, QL_mono w.2.2.2 h⟩
theorem IC.sym {p : RW} (c : IC p) {r o : Nat} (hr : r < 7) (ho : o < 7) : gC p o r = gC p r o := by
  obtain ⟨x, -, e1, e2, -⟩ := c r o hr ho
  rw [e1, e2]
theorem IC.CN {p : RW} (c : IC p) : CN p := fun r o hr ho => by
  obtain ⟨x, h, e, -⟩ := c r o hr ho
  rw [e, ltI (by omega) (by omega)]
  omega
theorem IC.pos {p : RW} (c : IC p) {r o : Nat} (hr : r < 7) (ho : o < 7) : (¬ gC p r o = nI 0) ↔ nI 0 < gC p r o := by
  obtain ⟨x, h, e, -⟩ := c r o hr ho
  rw [e, ltI (by omega) (by omega), eqI (by omega) (by omega)]
  omega
theorem MV_c {p q : RW} {i k f t d : Nat} (h : ∀ c, c < 4 → q (154 + 4 * i + c) = p (154 + 4 * i + c)) (m : MV p i k f t d) : MV q i k f t d := by
  obtain ⟨m1, m2, m3, m4, e1, e2, e3, e4⟩ := m
  exact ⟨m1, m2, m3, m4, (h 0 (by omega)).trans e1, (h 1 (by omega)).trans e2, (h 2 (by omega)).trans e3, (h 3 (by omega)).trans e4⟩
theorem IC_c {p q : RW} (h : ∀ r o, r < 7 → o < 7 → gC q r o = gC p r o) (c : IC p) : IC q := fun r o hr ho => by
  obtain ⟨x, x1, e1, e2, e3⟩ := c r o hr ho
  exact ⟨x, x1, (h r o hr ho).trans e1, (h o r ho hr).trans e2, e3⟩
theorem IT_c {p q : RW} (h : ∀ r o, r < 7 → o < 7 → gT q r o = gT p r o) (c : IT p) : IT q := fun r o hr ho => by
  obtain ⟨x, x1, e1⟩ := c r o hr ho
  exact ⟨x, x1, (h r o hr ho).trans e1⟩
theorem IR_c {p q : RW} {r : Nat} (h : ∀ j, j < 7 → gR q r j = gR p r j) (c : IR p r) : IR q r := by
  obtain ⟨⟨d, d1, d2⟩, a, b, e, f⟩ := c
  exact ⟨⟨d, d1, (h 0 (by omega)).trans d2⟩, by rw [h 2 (by omega)]; exact a, by rw [h 3 (by omega)]; exact b, by rw [h 4 (by omega)]; exact e, by rw [h 5 (by omega)]; exact f⟩
theorem IO_c {p q : RW} {r : Nat} (hr : r < 7) (h : gR q r 5 = gR p r 5) (hc : ∀ r o, r < 7 → o < 7 → gC q r o = gC p r o) (c : IO p r) : IO q r := fun o ho b => by
  rw [hc r o hr ho]
  rw [h] at b
  exact c o ho b
theorem IP_c {p q : RW} {r : Nat} (h : gR q r 5 = gR p r 5) (h3 : gR q r 3 = gR p r 3) (c : IP p r) : IP q r := fun b => by
  rw [h3] at b
  rw [h]
  exact c b
theorem IO_0 {p : RW} {r : Nat} (h : gR p r 5 = nI 0) : IO p r := fun o ho b => by
  rw [h, bt_0 o ho] at b
  exact absurd b n01
theorem IP_0 {p : RW} {r : Nat} (h : gR p r 5 = nI 0) : IP p r := fun _ => h
/-- a router's number is changed -/
theorem WI.up {p : RW} {N : Nat} (w : WI p N) {r j : Nat} (hr : r < 7) (hj : j < 7) {v : Int32} (h0 : j = 0 → ∃ d, d ≤ 9999 ∧ v = nI d) (h2 : j = 2 → SU v) (h3 : j = 3 → v = nI 0 ∨ v = nI 1) (h4 : j = 4 ∨ j = 5 → M7 v) (h4o : j = 4 → bt v r = nI 0 := by intro e; omega) : WI (up1 p (105 + 7 * r + j) v) N := by
  obtain ⟨⟨c, t, s⟩, m, tm, q⟩ := w
  have hg : ∀ s i, s < 7 → i < 7 → gR (up1 p (105 + 7 * r + j) v) s i = if s = r ∧ i = j then v else gR p s i := fun s i hs hi => by
    by_cases e : s = r ∧ i = j
    · obtain ⟨rfl, rfl⟩ := e
      rw [if_pos ⟨rfl, rfl⟩]; exact up1_s _ _ _
    · rw [if_neg e]; exact gR_up (by omega)
  refine ⟨⟨IC_c (fun a b ha hb => gC_up (by omega)) c, IT_c (fun a b ha hb => gT_up (by omega)) t, fun s' hs => ?_⟩, fun i hi => ?_, ?_, ?_⟩
  · obtain ⟨⟨d, d1, d2⟩, x2, x3, x4, x5⟩ := s s' hs
    refine ⟨?_, ?_, ?_, ?_, ?_⟩
    · rw [hg s' 0 hs (by omega)]
      by_cases e : s' = r ∧ 0 = j
      · rw [if_pos e]; exact h0 e.2.symm
      · rw [if_neg e]; exact ⟨d, d1, d2⟩
    · rw [hg s' 2 hs (by omega)]
      by_cases e : s' = r ∧ 2 = j
      · rw [if_pos e]; exact h2 e.2.symm
      · rw [if_neg e]; exact x2
    · rw [hg s' 3 hs (by omega)]
      by_cases e : s' = r ∧ 3 = j
      · rw [if_pos e]; exact h3 e.2.symm
      · rw [if_neg e]; exact x3
    · rw [hg s' 4 hs (by omega)]
      by_cases e : s' = r ∧ 4 = j
      · rw [if_pos e]; exact ⟨h4 (Or.inl e.2.symm), by rw [e.1]; exact h4o e.2.symm⟩
      · rw [if_neg e]; exact x4
    · rw [hg s' 5 hs (by omega)]
      by_cases e : s' = r ∧ 5 = j
      · rw [if_pos e]; exact h4 (Or.inr e.2.symm)
      · rw [if_neg e]; exact x5
  · rw [ql_up (by omega)] at hi
    obtain ⟨k, f, t', d, mv, l⟩ := m i hi
    have e := mv.2.2.1
    have e' := mv.2.1
    exact ⟨k, f, t', d, MV_c (fun c hc => up1_n _ _ (by omega)) mv, by rw [gC_up (by omega)]; exact l⟩
  · obtain ⟨a, a1, a2⟩ := tm
    exact ⟨a, a1, by rw [up1_n _ _ (by omega)]; exact a2⟩
  · rw [QL_up (by omega)]; exact q
theorem WI.send1 {p : RW} {N : Nat} (w : WI p N) (hN : N ≤ 900) {k r o : Nat} (hk : k < 3) (hr : r < 7) (ho : o < 7) (l : nI 0 < gC p r o) : WI (mSend p (nI k) (nI r) (nI o) r) (N + 1) := by
  obtain ⟨⟨c, t, s⟩, m, tm, q⟩ := w
  have hq : ql (mSend p (nI k) (nI r) (nI o) r) = ql p + 1 := ql_send (by have := q.2; omega)
  refine ⟨⟨IC_c (fun a b ha hb => gC_send ha hb) c, IT_c (fun a b ha hb => gT_send ha hb) t, fun a ha => IR_c (fun j hj => gR_send ha hj) (s a ha)⟩, fun i hi => ?_, ?_, ?_⟩
  · rw [hq] at hi
    by_cases e : i = ql p
    · subst e
      obtain ⟨d, d1, d2⟩ := (s r hr).1
      refine ⟨k, r, o, d, ⟨hk, hr, ho, d1, ?_, ?_, ?_, ?_⟩, ?_⟩
      · unfold mSend; simp (disch := omega) only [up1_n, up1_s]
      · unfold mSend; simp (disch := omega) only [up1_n, up1_s]
      · unfold mSend; simp (disch := omega) only [up1_n, up1_s]
      · unfold mSend; simp (disch := omega) only [up1_n, up1_s]; exact d2
      · rw [gC_send ho hr, c.sym hr ho]; exact l
    · obtain ⟨k', f, t', d, mv, l'⟩ := m i (by omega)
      have e1 := mv.2.2.1
      have e2 := mv.2.1
      refine ⟨k', f, t', d, MV_c (fun c hc => ?_) mv, by rw [gC_send e1 e2]; exact l'⟩
      unfold mSend; simp (disch := omega) only [up1_n]
  · obtain ⟨a, a1, a2⟩ := tm
    exact ⟨a, a1, (mSend_lo (by omega) (by omega)).trans a2⟩
  · exact QL_of mSend_6 (by have := q.2; omega) (by omega)
theorem WI.sendG {r : Nat} (hr : r < 7) {k : Nat} (hk : k < 3) {set : Int32} : ∀ (m i : Nat) (p : RW) (N : Nat), i + m = 7 → WI p N → N + m ≤ 900 → (∀ o, o < 7 → bt set o = nI 1 → nI 0 < gC p r o) → WI (itr (fun p o => if bt set o = nI 1 then mSend p (nI k) (nI r) (nI o) r else p) i m p) (itr (fun n o => if bt set o = nI 1 then n + 1 else n) i m N)
  | 0, _, _, _, _, w, _, _ => w
  | m + 1, i, p, N, hi, w, hN, hs => by
    rw [itr_s, itr_s]
    by_cases c : bt set i = nI 1
    · rw [if_pos c, if_pos c]
      exact WI.sendG hr hk m (i + 1) _ _ (by omega) (w.send1 (by omega) hk hr (by omega) (hs i (by omega) c)) (by omega) (fun o ho b => by rw [gC_send hr ho]; exact hs o ho b)
    · rw [if_neg c, if_neg c]
      exact WI.sendG hr hk m (i + 1) _ _ (by omega) w (by omega) hs
theorem WI.send {p : RW} {N : Nat} (w : WI p N) (hN : N ≤ 890) {k r : Nat} (hk : k < 3) (hr : r < 7) {set : Int32} (hs : ∀ o, o < 7 → bt set o = nI 1 → nI 0 < gC p r o) : WI (mSendAll p (nI k) r set) (N + cnt set) := by
  have := WI.sendG hr hk 7 0 p N (by omega) w (by omega) hs
  rw [cnt_add set 7 0 N] at this
  exact this
theorem by_rng {p : RW} (c : IC p) (t : IT p) {r o : Nat} (hr : r < 7) (ho : o < 7) : ∃ d, d ≤ 9999 ∧ mBy p r o = nI d := by
  obtain ⟨x, x1, e1, -⟩ := c r o hr ho
  obtain ⟨y, y1, e2⟩ := t r o hr ho
  unfold mBy
  by_cases h : gC p r o = nI 0 ∨ nI 9999 < gT p r o + gC p r o
  · rw [if_pos h]; exact ⟨9999, by omega, rfl⟩
  · rw [if_neg h, e1, e2, nI_add]
    have h2 := (not_or.mp h).2
    rw [e1, e2, nI_add, ltI (by omega) (by omega)] at h2
    exact ⟨y + x, by omega, rfl⟩
theorem least_rng {p : RW} (c : IC p) (t : IT p) {r : Nat} (hr : r < 7) : ∃ d, d ≤ 9999 ∧ mLeast p r = nI d := by
  obtain ⟨-, ⟨-, -, a⟩, -⟩ := tl_res p r (nI 0)
  rcases a with a | ⟨o, ho, a⟩
  · exact ⟨9999, by omega, a⟩
  · rw [a]; exact by_rng c t hr ho
