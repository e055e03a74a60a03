/-! ===== acts on a row: what they answer, what they leave ===== -/
/-- what lies below 5 and from 2010 on is kept, at most k messages more -/
def HIQ (p q : RW) (k : Nat) : Prop := ∀ N, QL p N → N + k ≤ 460 → (∀ j, j < 5 ∨ 2010 ≤ j → q j = p j) ∧ QL q (N + k)
theorem HIQ.refl (p : RW) : HIQ p p 0 := fun N h _ => ⟨fun _ _ => rfl, h⟩
theorem HIQ.trans {p q r : RW} {k l : Nat} (a : HIQ p q k) (b : HIQ q r l) : HIQ p r (k + l) := fun N h hN => by
  obtain ⟨a1, a2⟩ := a N h (by omega)
  obtain ⟨b1, b2⟩ := b (N + k) a2 (by omega)
  exact ⟨fun j hj => (b1 j hj).trans (a1 j hj), QL_mono b2 (by omega)⟩
theorem HIQ.mono {p q : RW} {k l : Nat} (a : HIQ p q k) (h : k ≤ l) : HIQ p q l := fun N hq hN => by
  obtain ⟨a1, a2⟩ := a N hq (by omega)
  exact ⟨a1, QL_mono a2 (by omega)⟩
theorem HIQ.up (p : RW) {j : Nat} (v : Int32) (h1 : 5 ≤ j) (h2 : j < 2010) (h3 : j ≠ 6) : HIQ p (up1 p j v) 0 := fun N hq _ => ⟨fun i hi => up1_n _ _ (by omega), by rw [QL_up (by omega)]; exact hq⟩
theorem HIQ.send (p : RW) (k f t : Int32) (r : Nat) : HIQ p (mSend p k f t r) 1 := fun N hq hN => by
  have := hq.2
  refine ⟨fun j hj => ?_, QL_of mSend_6 (by omega) (by omega)⟩
  unfold mSend
  simp (disch := omega) only [up1_n]
theorem HIQ.sendG (k : Int32) (r : Nat) (set : Int32) : ∀ (m i : Nat) (p : RW), HIQ p (itr (fun p o => if bt set o = nI 1 then mSend p k (nI r) (nI o) r else p) i m p) m
  | 0, _, p => HIQ.refl p
  | m + 1, i, p => by
    rw [itr_s]
    by_cases c : bt set i = nI 1
    · rw [if_pos c]; exact ((HIQ.send p k (nI r) (nI i) r).trans (HIQ.sendG k r set m (i + 1) _)).mono (by omega)
    · rw [if_neg c]; exact (HIQ.sendG k r set m (i + 1) p).mono (by omega)
theorem HIQ.sendA (p : RW) (k : Int32) (r : Nat) (set : Int32) : HIQ p (mSendAll p k r set) 7 := HIQ.sendG k r set 7 0 p
theorem HIQ.r {p : RW} {r j : Nat} (hr : r < 7) (hj : j < 7) (v : Int32) : HIQ p (up1 p (105 + 7 * r + j) v) 0 := HIQ.up p v (by omega) (by omega) (by omega)
theorem hi_tail (p : RW) {r : Nat} (hr : r < 7) (had : Int32) : HIQ p (mTail p r had) 14 := by
  unfold mTail
  dsimp only
  have a := (HIQ.r (p := p) hr (j := 5) (by omega) (nI 0)).trans (HIQ.sendA (up1 p (105 + 7 * r + 5) (nI 0)) (nI 2) r (gR p r 5))
  split
  · exact a.mono (by omega)
  · exact (a.trans (HIQ.sendA _ _ _ _)).mono (by omega)
theorem hi_end0 (p : RW) {r : Nat} (hr : r < 7) : HIQ p (mEnd0 p r) 0 := by
  unfold mEnd0
  exact ((HIQ.r hr (j := 2) (by omega) _).trans (HIQ.r hr (j := 0) (by omega) _)).trans (HIQ.r hr (j := 1) (by omega) _)
theorem hi_take (p : RW) {r o : Nat} (hr : r < 7) : HIQ p (mTake p r o) 0 := by
  unfold mTake
  exact ((HIQ.r hr (j := 0) (by omega) _).trans (HIQ.r hr (j := 2) (by omega) _)).trans (HIQ.r hr (j := 1) (by omega) _)
theorem hi_act2 (p : RW) {r : Nat} (hr : r < 7) (ow : Int32) : HIQ p (mAct2 p r ow) 7 := by
  unfold mAct2 mAct1
  dsimp only
  exact (((((((HIQ.r hr (j := 0) (by omega) _).trans (HIQ.r hr (j := 1) (by omega) _)).trans (HIQ.r hr (j := 3) (by omega) _)).trans (HIQ.r hr (j := 6) (by omega) _)).trans (HIQ.r hr (j := 5) (by omega) _)).trans (HIQ.r hr (j := 4) (by omega) _)).trans (HIQ.sendA _ _ _ _)).mono (by omega)
theorem hi_go (p : RW) {r : Nat} (hr : r < 7) (ow : Int32) : HIQ p (mGo p r ow) 21 := by
  unfold mGo
  dsimp only
  split
  · exact (((hi_act2 p hr ow).trans (HIQ.r hr (j := 3) (by omega) _)).trans ((hi_end0 _ hr).trans (hi_tail _ hr _))).mono (by omega)
  · exact (hi_act2 p hr ow).mono (by omega)
theorem hi_ends (p : RW) {r : Nat} (hr : r < 7) : HIQ p (mEnds p r) 21 := by
  unfold mEnds
  dsimp only
  have a := HIQ.r (p := p) hr (j := 3) (by omega) (nI 0)
  split
  · exact (a.trans ((hi_end0 _ hr).trans (hi_tail _ hr _))).mono (by omega)
  · split
    · exact (a.trans (hi_go _ hr _)).mono (by omega)
    · exact (a.trans (((hi_take _ hr).trans (HIQ.r hr (j := 6) (by omega) _)).trans (hi_tail _ hr _))).mono (by omega)
theorem hi_decide (p : RW) {r : Nat} (hr : r < 7) (ask : Int32) : HIQ p (mDecide p r ask) 21 := by
  unfold mDecide
  split
  · split
    · exact ((HIQ.r hr (j := 2) (by omega) _).trans (HIQ.sendA _ _ _ _)).mono (by omega)
    · exact hi_go p hr ask
  · dsimp only
    split
    · exact ((hi_take p hr).trans (HIQ.sendA _ _ _ _)).mono (by omega)
    · exact (((hi_take p hr).trans (HIQ.sendA _ _ _ _)).trans (HIQ.sendA _ _ _ _)).mono (by omega)
theorem hi_TL3 (p : RW) {r : Nat} (hr : r < 7) : HIQ p (mTL3 p r) 21 := by
  unfold mTL3
  split
  · exact hi_ends p hr
  · exact (HIQ.refl p).mono (by omega)
theorem hi_TL2 (p : RW) {r o : Nat} (hr : r < 7) : HIQ p (mTL2 p r o) 21 := by
  unfold mTL2
  split
  · exact ((HIQ.r hr (j := 6) (by omega) _).trans (hi_TL3 _ hr)).mono (by omega)
  · exact hi_TL3 p hr
theorem hi_TL (p : RW) {r o : Nat} (hr : r < 7) : HIQ p (mTL p r o) 21 := by
  unfold mTL
  split
  · exact (HIQ.refl p).mono (by omega)
  · split
    · exact hi_decide p hr _
    · unfold mTL1
      split
      · exact (((HIQ.r hr (j := 5) (by omega) _).trans (HIQ.r hr (j := 4) (by omega) _)).trans (hi_TL2 _ hr)).mono (by omega)
      · exact hi_TL2 p hr
theorem hi_TA (p : RW) {r o k : Nat} (hr : r < 7) : HIQ p (mTA p r o k) 21 := by
  unfold mTA
  split
  · split
    · exact (HIQ.r hr (j := 6) (by omega) _).mono (by omega)
    · exact (HIQ.refl p).mono (by omega)
  · split
    · split
      · exact ((HIQ.r hr (j := 5) (by omega) _).trans (HIQ.r hr (j := 6) (by omega) _)).mono (by omega)
      · exact (HIQ.send p _ _ _ _).mono (by omega)
    · exact ((HIQ.r hr (j := 4) (by omega) _).trans (hi_TL3 _ hr)).mono (by omega)
theorem hi_hear (p : RW) {t f k : Nat} (ht : t < 7) : HIQ p (mHear p t f k) 21 := by
  unfold mHear
  split
  · exact (HIQ.sendA p _ _ _).mono (by omega)
  · split
    · exact hi_decide p ht _
    · exact hi_TA p ht
theorem hi_out (p : RW) {i : Nat} : HIQ p (mOut p i) 0 := fun N hq hN => by
  have := hq.2
  refine ⟨fun j hj => ?_, QL_of mOut_6 (by omega) (by omega)⟩
  unfold mOut shF
  rw [if_neg (by omega), up1_n _ _ (by omega)]
theorem hi_dlv (p : RW) {i k f t d : Nat} (ht : t < 7) (hf : f < 7) : HIQ p (mDlv p i k f t d) 21 := by
  unfold mDlv mTime
  exact ((((HIQ.up p _ (by omega) (by omega) (by omega)).trans (hi_out _)).trans (hi_hear _ ht)).trans (HIQ.up _ _ (by omega) (by omega) (by omega))).mono (by omega)
theorem hi_cutT {r : Nat} (hr : r < 7) (s : Int32) : ∀ (m i : Nat) (p : RW), i + m = 7 → HIQ p (itr (fun p o => if bt s o = nI 1 then up1 p (56 + 7 * r + o) (nI 9999) else p) i m p) 0
  | 0, _, p, _ => HIQ.refl p
  | m + 1, i, p, hi => by
    rw [itr_s]
    by_cases c : bt s i = nI 1
    · rw [if_pos c]; exact (HIQ.up p _ (by omega) (by omega) (by omega)).trans (hi_cutT hr s m (i + 1) _ (by omega))
    · rw [if_neg c]; exact hi_cutT hr s m (i + 1) p (by omega)
theorem hi_cut (p : RW) {r : Nat} (hr : r < 7) : HIQ p (mCut p r) 21 := by
  unfold mCut mCutT
  exact ((((hi_cutT hr _ 7 0 p (by omega)).trans (HIQ.r hr (j := 4) (by omega) _)).trans (HIQ.r hr (j := 6) (by omega) _)).trans (hi_ends _ hr)).mono (by omega)
theorem mv4_hi {p : RW} {a b j : Nat} (ha : 154 + 4 * a + 4 ≤ j) : mv4 p a b j = p j := by
  unfold mv4
  simp only [itr_s, itr_0]
  simp (disch := omega) only [up1_n]
theorem los_hi (x y : Int32) : ∀ (m i : Nat) (q : RW) (a : Nat), a ≤ i → i + m ≤ 460 → (∀ j, j < 5 ∨ 2010 ≤ j → (itr (losG x y) i m (q, a)).1 j = q j) ∧ (itr (losG x y) i m (q, a)).2 ≤ i + m
  | 0, i, q, a, ha, hi => ⟨fun _ _ => rfl, by show a ≤ i + 0; omega⟩
  | m + 1, i, q, a, ha, hi => by
    rw [itr_s]
    by_cases c : isL q x y i
    · rw [show losG x y (q, a) i = (q, a) from if_pos c]
      obtain ⟨h1, h2⟩ := los_hi x y m (i + 1) q a (by omega) (by omega)
      exact ⟨h1, by omega⟩
    · rw [show losG x y (q, a) i = (mv4 q a i, a + 1) from if_neg c]
      obtain ⟨h1, h2⟩ := los_hi x y m (i + 1) (mv4 q a i) (a + 1) (by omega) (by omega)
      refine ⟨fun j hj => (h1 j hj).trans ?_, by omega⟩
      rcases hj with hj | hj
      · exact mv4_lo (by omega)
      · exact mv4_hi (by omega)
theorem hi_lose (p : RW) (x y : Int32) : HIQ p (mLose p x y) 0 := fun N hq hN => by
  have := hq.2
  obtain ⟨h1, h2⟩ := los_hi x y (ql p) 0 p 0 (by omega) (by omega)
  refine ⟨fun j hj => ?_, QL_of (up1_s _ _ _) (by omega) (by omega)⟩
  unfold mLose
  rw [up1_n _ _ (by omega)]
  exact h1 j hj
theorem hi_lnk (p : RW) {a b : Nat} (c : Int32) (ha : a < 7) (hb : b < 7) : HIQ p (mLnk p a b c) 44 := by
  have e1 : HIQ p (mLk1 p a b c (gC p a b)) 0 := by
    unfold mLk1 mLk0
    split
    · exact (((HIQ.up p _ (by omega) (by omega) (by omega)).trans (HIQ.up _ _ (by omega) (by omega) (by omega))).trans (HIQ.up _ _ (by omega) (by omega) (by omega))).trans (HIQ.up _ _ (by omega) (by omega) (by omega))
    · exact (HIQ.up p _ (by omega) (by omega) (by omega)).trans (HIQ.up _ _ (by omega) (by omega) (by omega))
  have e2 : HIQ p (mLk2 (mLk1 p a b c (gC p a b)) a b (gC p a b)) 2 := by
    unfold mLk2
    split
    · exact (e1.trans ((HIQ.send _ _ _ _ _).trans (HIQ.send _ _ _ _ _))).mono (by omega)
    · exact e1.mono (by omega)
  have e3 : HIQ p (mLk3 (mLk2 (mLk1 p a b c (gC p a b)) a b (gC p a b)) a b c) 2 := by
    unfold mLk3
    split
    · exact (e2.trans (hi_lose _ _ _)).mono (by omega)
    · exact e2
  unfold mLnk
  exact ((e3.trans (hi_TL _ ha)).trans (hi_TL _ hb)).mono (by omega)
/-- the row put back -/
def bk (p q : RW) : RW := fun j => if 5 ≤ j ∧ j < 1754 then p j else q j
theorem IV_c {p q : RW} (h : ∀ j, 5 ≤ j → j < 1754 → q j = p j) (v : IV p) : IV q := by
  obtain ⟨⟨⟨c, t, s⟩, m, tm, hq⟩, v2, h0⟩ := v
  have gc : ∀ a b, a < 7 → b < 7 → gC q a b = gC p a b := fun a b ha hb => h _ (by omega) (by omega)
  have gr : ∀ a j, a < 7 → j < 7 → gR q a j = gR p a j := fun a j ha hj => h _ (by omega) (by omega)
  have e6 : q 6 = p 6 := h 6 (by omega) (by omega)
  have eq : ql q = ql p := by unfold ql; rw [e6]
  have hq2 := hq.2
  refine ⟨⟨⟨IC_c gc c, IT_c (fun a b ha hb => h _ (by omega) (by omega)) t, fun r hr => IR_c (fun j hj => gr r j hr hj) (s r hr)⟩, fun i hi => ?_, ?_, by rw [QL_eq e6]; exact hq⟩, iv_lo gc gr v2, (gr 0 3 (by omega) (by omega)).trans h0⟩
  · rw [eq] at hi
    obtain ⟨k, f, t', d, mv, l⟩ := m i hi
    exact ⟨k, f, t', d, MV_c (fun c hc => h _ (by omega) (by omega)) mv, by rw [gc t' f mv.2.2.1 mv.2.1]; exact l⟩
  · obtain ⟨a, a1, a2⟩ := tm
    exact ⟨a, a1, (h 5 (by omega) (by omega)).trans a2⟩
theorem bk_in {p q : RW} {j : Nat} (h1 : 5 ≤ j) (h2 : j < 1754) : bk p q j = p j := if_pos ⟨h1, h2⟩
theorem bk_out {p q : RW} {j : Nat} (h : j < 5 ∨ 1754 ≤ j) : bk p q j = q j := if_neg (by omega)
/-- an act is over -/
def ov (p q : RW) (told : Int32) : Int32 × RW := if nI 400 < q 6 then (-5, bk p q) else (told, q)
/-- what an act leaves alone -/
def LO (p q : RW) : Prop := ∀ j, j < 5 ∨ 2010 ≤ j → q j = p j
theorem ov_iv {p q : RW} {told : Int32} (v : IV p) (w : WI q 416) (r : (∀ s, s < 7 → IO q s ∧ IP q s) ∧ gR q 0 3 = nI 0) (l : LO p q) : IV (ov p q told).2 ∧ LO p (ov p q told).2 := by
  unfold ov
  split
  · exact ⟨IV_c (fun j h1 h2 => bk_in h1 h2) v, fun j hj => (bk_out (by omega)).trans (l j hj)⟩
  · next c =>
    refine ⟨⟨⟨w.1, w.2.1, w.2.2.1, ?_⟩, r⟩, l⟩
    have hq := w.2.2.2
    refine ⟨hq.1, ?_⟩
    show ql q ≤ 400
    rw [hq.1, ltI (by omega) (by have := hq.2; omega)] at c
    omega
def dl (Lo : Option LWS) (p : RW) : RW := mDlv p (jNx Lo p) (p (154 + 4 * jNx Lo p)).toNatClampNeg (p (154 + 4 * jNx Lo p + 1)).toNatClampNeg (p (154 + 4 * jNx Lo p + 2)).toNatClampNeg (p (154 + 4 * jNx Lo p + 3)).toNatClampNeg
abbrev isR (x : Int32) : Prop := nI 0 ≤ x ∧ x ≤ nI 6
def nn (x : Int32) : Nat := x.toNatClampNeg
/-- what is in the way of an act: 0, if nothing -/
def aRef (Lo : Option LWS) (p : RW) (kd : Nat) (one other costs : Int32) : Int32 :=
  if kd = 1 then (if p 6 = nI 0 then -3 else nI 0)
  else if kd = 2 then (if isR one then (if gR p (nn one) 3 = nI 0 then -3 else nI 0) else -1)
  else if isR one ∧ isR other ∧ ¬ one = other ∧ nI 0 ≤ costs ∧ costs ≤ nI 50 then (if gC p (nn one) (nn other) = costs ∨ jBarO Lo (eMs (-1) one.toInt other.toInt costs.toInt (p 6).toInt (p 5).toInt (p 4).toInt) = true then -3 else nI 0) else -1
def aDo (Lo : Option LWS) (p : RW) (kd : Nat) (one other costs : Int32) : Int32 × RW :=
  if kd = 1 then ov p (dl Lo p) (p (154 + 4 * jNx Lo p)) else if kd = 2 then ov p (mCut p (nn one)) (mMany (gR p (nn one) 4)) else ov p (mLnk p (nn one) (nn other) costs) (gC p (nn one) (nn other))
def aAct (Lo : Option LWS) (p : RW) (kd : Nat) (one other costs : Int32) : Int32 × RW := if aRef Lo p kd one other costs = nI 0 then aDo Lo p kd one other costs else (aRef Lo p kd one other costs, p)
