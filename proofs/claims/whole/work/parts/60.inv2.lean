/-! ===== the acts keep it ===== -/
/-- only router r was changed (and messages, and what was told) -/
def Sm (p q : RW) (r : Nat) : Prop := (∀ a b, a < 7 → b < 7 → gC q a b = gC p a b) ∧ (∀ s j, s < 7 → j < 7 → s ≠ r → gR q s j = gR p s j)
def RES (p q : RW) (r N : Nat) : Prop := WI q N ∧ Sm p q r ∧ IO q r ∧ IP q r
theorem Sm.refl (p : RW) (r : Nat) : Sm p p r := ⟨fun _ _ _ _ => rfl, fun _ _ _ _ _ => rfl⟩
theorem Sm.trans {p q s : RW} {r : Nat} (a : Sm p q r) (b : Sm q s r) : Sm p s r := ⟨fun x y hx hy => (b.1 x y hx hy).trans (a.1 x y hx hy), fun x y hx hy e => (b.2 x y hx hy e).trans (a.2 x y hx hy e)⟩
theorem Sm.up (p : RW) {r j : Nat} (hr : r < 7) (hj : j < 7) (v : Int32) : Sm p (up1 p (105 + 7 * r + j) v) r := ⟨fun a b ha hb => gC_up (by omega), fun s i hs hi e => gR_up (by omega)⟩
theorem Sm.snd (p : RW) (k : Int32) (r s : Nat) (set : Int32) : Sm p (mSendAll p k s set) r := ⟨fun a b ha hb => gC_sall ha hb, fun s i hs hi e => gR_sall hs hi⟩
theorem RES.mono {p q : RW} {r N M : Nat} (x : RES p q r N) (h : N ≤ M) : RES p q r M := ⟨x.1.mono h, x.2⟩
theorem RES.pre {o p q : RW} {r N : Nat} (a : Sm o p r) (x : RES p q r N) : RES o q r N := ⟨x.1, a.trans x.2.1, x.2.2⟩
theorem nb_sub {p : RW} {r : Nat} {a : Int32} (ha : M7 a) : ∀ o, o < 7 → bt (mNb p r &&& (a ^^^ (-1))) o = nI 1 → nI 0 < gC p r o := fun o ho b => ((mNb_b p r).2 o ho).mp ((((mNb_b p r).1.ann ha).2 o ho).mp b).1
theorem nb_sub0 {p : RW} {r : Nat} : ∀ o, o < 7 → bt (mNb p r) o = nI 1 → nI 0 < gC p r o := fun o ho b => ((mNb_b p r).2 o ho).mp b
theorem r_tail {p : RW} {N r : Nat} (hr : r < 7) (w : WI p N) (hN : N ≤ 880) (io : IO p r) (had : Int32) : RES p (mTail p r had) r (N + 7) := by
  have m5 := (w.1.2.2 r hr).2.2.2.2
  have w1 : WI (up1 p (105 + 7 * r + 5) (nI 0)) N := w.up hr (by omega) (fun e => by omega) (fun e => by omega) (fun e => by omega) (fun _ => m7_0)
  have s1 := Sm.up p hr (j := 5) (by omega) (nI 0)
  have w2 := w1.send (by omega) (k := 2) (by omega) hr (set := gR p r 5) (fun o ho b => by rw [s1.1 r o hr ho]; exact io o ho b)
  have s2 := s1.trans (Sm.snd (up1 p (105 + 7 * r + 5) (nI 0)) (nI 2) r r (gR p r 5))
  have g5 : gR (mSendAll (up1 p (105 + 7 * r + 5) (nI 0)) (nI 2) r (gR p r 5)) r 5 = nI 0 := by rw [gR_sall hr (by omega)]; exact up1_s _ _ _
  unfold mTail
  dsimp only
  split
  · exact ⟨w2.mono (by have := cnt_le (gR p r 5); omega), s2, IO_0 g5, IP_0 g5⟩
  · have c7 := cnt_ann (mNb_b (mSendAll (up1 p (105 + 7 * r + 5) (nI 0)) (nI 2) r (gR p r 5)) r).1 m5
    have w3 := w2.send (by have := cnt_le (gR p r 5); omega) (k := 0) (by omega) hr (nb_sub m5)
    have g5' : gR (mSendAll (mSendAll (up1 p (105 + 7 * r + 5) (nI 0)) (nI 2) r (gR p r 5)) (nI 0) r (mNb (mSendAll (up1 p (105 + 7 * r + 5) (nI 0)) (nI 2) r (gR p r 5)) r &&& (gR p r 5 ^^^ (-1)))) r 5 = nI 0 := by rw [gR_sall hr (by omega)]; exact g5
    exact ⟨w3.mono (by omega), s2.trans (Sm.snd _ _ _ _ _), IO_0 g5', IP_0 g5'⟩
theorem r_end0 {p : RW} {N r : Nat} (hr : r < 7) (w : WI p N) : WI (mEnd0 p r) N ∧ Sm p (mEnd0 p r) r ∧ gR (mEnd0 p r) r 5 = gR p r 5 := by
  obtain ⟨d, d1, d2⟩ := least_rng w.1.1 w.1.2.1 hr
  unfold mEnd0
  have a1 := w.up hr (j := 2) (v := mLow p r (mLeast p r)) (by omega) (fun e => by omega) (fun _ => mLow_or p r _) (fun e => by omega) (fun e => by omega)
  have a2 := a1.up hr (j := 0) (v := mLeast p r) (by omega) (fun _ => ⟨d, d1, d2⟩) (fun e => by omega) (fun e => by omega) (fun e => by omega)
  have a3 := a2.up hr (j := 1) (v := mLeast p r) (by omega) (fun e => by omega) (fun e => by omega) (fun e => by omega) (fun e => by omega)
  refine ⟨a3, ((Sm.up p hr (j := 2) (by omega) _).trans (Sm.up _ hr (j := 0) (by omega) _)).trans (Sm.up _ hr (j := 1) (by omega) _), ?_⟩
  rw [gR_up (by omega), gR_up (by omega), gR_up (by omega)]
theorem r_take {p : RW} {N r o : Nat} (hr : r < 7) (ho : o < 7) (w : WI p N) : WI (mTake p r o) N ∧ Sm p (mTake p r o) r ∧ gR (mTake p r o) r 5 = gR p r 5 ∧ gR (mTake p r o) r 3 = gR p r 3 := by
  obtain ⟨d, d1, d2⟩ := by_rng w.1.1 w.1.2.1 hr ho
  unfold mTake
  have a1 := w.up hr (j := 0) (v := mBy p r o) (by omega) (fun _ => ⟨d, d1, d2⟩) (fun e => by omega) (fun e => by omega) (fun e => by omega)
  have a2 := a1.up hr (j := 2) (v := nI o) (by omega) (fun e => by omega) (fun _ => Or.inr ⟨o, ho, rfl⟩) (fun e => by omega) (fun e => by omega)
  have a3 := a2.up hr (j := 1) (v := if mBy p r o < gR p r 1 then mBy p r o else gR p r 1) (by omega) (fun e => by omega) (fun e => by omega) (fun e => by omega) (fun e => by omega)
  refine ⟨a3, ((Sm.up p hr (j := 0) (by omega) _).trans (Sm.up _ hr (j := 2) (by omega) _)).trans (Sm.up _ hr (j := 1) (by omega) _), ?_, ?_⟩
  · rw [gR_up (by omega), gR_up (by omega), gR_up (by omega)]
  · rw [gR_up (by omega), gR_up (by omega), gR_up (by omega)]
theorem r_act1 {p : RW} {N r : Nat} {ow : Int32} (hr : r < 7) (w : WI p N) (hw : M7 ow) : WI (mAct1 p r ow) N ∧ Sm p (mAct1 p r ow) r ∧ gR (mAct1 p r ow) r 5 = ow ∧ gR (mAct1 p r ow) r 3 = nI 1 := by
  have hv : ∃ d, d ≤ 9999 ∧ (if gR p r 2 = -1 then nI 9999 else mBy p r (gR p r 2).toNatClampNeg) = nI d := by
    rcases (w.1.2.2 r hr).2.1 with e | ⟨o, ho, e⟩
    · rw [if_pos e]; exact ⟨9999, by omega, rfl⟩
    · rw [e, if_neg (by rw [nI_m1 (by omega)]; exact id), nI_clamp (by omega)]; exact by_rng w.1.1 w.1.2.1 hr ho
  unfold mAct1
  dsimp only
  generalize (if gR p r 2 = -1 then nI 9999 else mBy p r (gR p r 2).toNatClampNeg) = v at hv ⊢
  have a1 := w.up hr (j := 0) (v := v) (by omega) (fun _ => hv) (fun e => by omega) (fun e => by omega) (fun e => by omega)
  have a2 := a1.up hr (j := 1) (v := v) (by omega) (fun e => by omega) (fun e => by omega) (fun e => by omega) (fun e => by omega)
  have a3 := a2.up hr (j := 3) (v := nI 1) (by omega) (fun e => by omega) (fun e => by omega) (fun _ => Or.inr rfl) (fun e => by omega)
  have a4 := a3.up hr (j := 6) (v := nI 0) (by omega) (fun e => by omega) (fun e => by omega) (fun e => by omega) (fun e => by omega)
  have a5 := a4.up hr (j := 5) (v := ow) (by omega) (fun e => by omega) (fun e => by omega) (fun e => by omega) (fun _ => hw)
  refine ⟨a5, ((((Sm.up p hr (j := 0) (by omega) _).trans (Sm.up _ hr (j := 1) (by omega) _)).trans (Sm.up _ hr (j := 3) (by omega) _)).trans (Sm.up _ hr (j := 6) (by omega) _)).trans (Sm.up _ hr (j := 5) (by omega) _), up1_s _ _ _, ?_⟩
  rw [gR_up (by omega), gR_up (by omega)]
  exact up1_s _ _ _
theorem cnt_0 : cnt (nI 0) = 0 := by decide +kernel
theorem nb_self {p : RW} (c : IC p) {r : Nat} (hr : r < 7) : bt (mNb p r) r = nI 0 := by
  rcases (mNb_b p r).1.bt hr with e | e
  · exact e
  · obtain ⟨x, -, e1, -, e3⟩ := c r r hr hr
    have z := ((mNb_b p r).2 r hr).mp e
    rw [e1, e3 rfl, ltI (by omega) (by omega)] at z
    exact absurd z (by omega)
theorem r_go {p : RW} {N r : Nat} {ow : Int32} (hr : r < 7) (w : WI p N) (hN : N ≤ 870) (hw : M7 ow) (hs : ∀ o, o < 7 → bt ow o = nI 1 → nI 0 < gC p r o) : RES p (mGo p r ow) r (N + 7) := by
  obtain ⟨w1, s1, g5, g3⟩ := r_act1 hr w hw
  have w2 := w1.up hr (j := 4) (v := mNb (mAct1 p r ow) r) (by omega) (fun e => by omega) (fun e => by omega) (fun e => by omega) (fun _ => (mNb_b _ r).1) (fun _ => nb_self w1.1.1 hr)
  have s2 := s1.trans (Sm.up (mAct1 p r ow) hr (j := 4) (by omega) (mNb (mAct1 p r ow) r))
  have w3 := w2.send (by omega) (k := 1) (by omega) hr (set := mNb (mAct1 p r ow) r) (fun o ho b => by rw [(Sm.up (mAct1 p r ow) hr (j := 4) (by omega) _).1 r o hr ho]; exact nb_sub0 o ho b)
  have s3 := s2.trans (Sm.snd (up1 (mAct1 p r ow) (105 + 7 * r + 4) (mNb (mAct1 p r ow) r)) (nI 1) r r (mNb (mAct1 p r ow) r))
  have c7 := cnt_le (mNb (mAct1 p r ow) r)
  have e2 : mAct2 p r ow = mSendAll (up1 (mAct1 p r ow) (105 + 7 * r + 4) (mNb (mAct1 p r ow) r)) (nI 1) r (mNb (mAct1 p r ow) r) := rfl
  rw [← e2] at w3 s3
  have g5' : gR (mAct2 p r ow) r 5 = ow := by rw [e2, gR_sall hr (by omega), gR_up (by omega)]; exact g5
  have g3' : gR (mAct2 p r ow) r 3 = nI 1 := by rw [e2, gR_sall hr (by omega), gR_up (by omega)]; exact g3
  have io : IO (mAct2 p r ow) r := fun o ho b => by
    rw [s3.1 r o hr ho]
    rw [g5'] at b
    exact hs o ho b
  unfold mGo
  dsimp only
  split
  · next h4 =>
    have e4 : gR (mAct2 p r ow) r 4 = mNb (mAct1 p r ow) r := by rw [e2, gR_sall hr (by omega)]; exact up1_s _ _ _
    rw [← e4, h4, cnt_0] at w3
    have w4 := w3.up hr (j := 3) (v := nI 0) (by omega) (fun e => by omega) (fun e => by omega) (fun _ => Or.inl rfl) (fun e => by omega)
    have s4 := s3.trans (Sm.up (mAct2 p r ow) hr (j := 3) (by omega) (nI 0))
    obtain ⟨w5, s5, g5e⟩ := r_end0 hr w4
    have io5 : IO (mEnd0 (up1 (mAct2 p r ow) (105 + 7 * r + 3) (nI 0)) r) r := fun o ho b => by
      rw [s5.1 r o hr ho, (Sm.up (mAct2 p r ow) hr (j := 3) (by omega) (nI 0)).1 r o hr ho]
      rw [g5e, gR_up (by omega)] at b
      exact io o ho b
    have R := r_tail hr w5 (by omega) io5 (gR (mAct2 p r ow) r 0)
    exact (R.pre (s4.trans s5)).mono (by omega)
  · exact ⟨w3.mono (by omega), s3, io, fun e => absurd (g3'.symm.trans e) n10⟩
theorem r_ends {p : RW} {N r : Nat} (hr : r < 7) (w : WI p N) (hN : N ≤ 860) (io : IO p r) : RES p (mEnds p r) r (N + 7) := by
  have m5 := (w.1.2.2 r hr).2.2.2.2
  have w1 := w.up hr (j := 3) (v := nI 0) (by omega) (fun e => by omega) (fun e => by omega) (fun _ => Or.inl rfl) (fun e => by omega)
  have s1 := Sm.up p hr (j := 3) (by omega) (nI 0)
  unfold mEnds
  dsimp only
  split
  · obtain ⟨w2, s2, g5⟩ := r_end0 hr w1
    have io2 : IO (mEnd0 (up1 p (105 + 7 * r + 3) (nI 0)) r) r := fun o ho b => by
      rw [(s1.trans s2).1 r o hr ho]
      rw [g5, gR_up (by omega)] at b
      exact io o ho b
    exact ((r_tail hr w2 (by omega) io2 _).pre (s1.trans s2)).mono (by omega)
  · split
    · exact (r_go hr w1 (by omega) m5 (fun o ho b => by rw [s1.1 r o hr ho]; exact io o ho b)).pre s1
    · next hb =>
      obtain ⟨o, ho, eo⟩ := (mBest_or (up1 p (105 + 7 * r + 3) (nI 0)) r).resolve_left hb
      rw [eo, nI_clamp (by omega)]
      obtain ⟨w2, s2, g5, -⟩ := r_take hr ho w1
      have w3 := w2.up hr (j := 6) (v := nI 0) (by omega) (fun e => by omega) (fun e => by omega) (fun e => by omega) (fun e => by omega)
      have s3 := (s1.trans s2).trans (Sm.up (mTake (up1 p (105 + 7 * r + 3) (nI 0)) r o) hr (j := 6) (by omega) (nI 0))
      have io3 : IO (up1 (mTake (up1 p (105 + 7 * r + 3) (nI 0)) r o) (105 + 7 * r + 6) (nI 0)) r := fun a ha b => by
        rw [s3.1 r a hr ha]
        rw [gR_up (by omega), g5, gR_up (by omega)] at b
        exact io a ha b
      exact ((r_tail hr w3 (by omega) io3 _).pre s3).mono (by omega)
theorem r_decide {p : RW} {N r : Nat} {ask : Int32} (hr : r < 7) (w : WI p N) (hN : N ≤ 860) (hw : M7 ask) (hs : ∀ o, o < 7 → bt ask o = nI 1 → nI 0 < gC p r o) (io : IO p r) (ip : IP p r) : RES p (mDecide p r ask) r (N + 7) := by
  unfold mDecide
  have ca := cnt_le ask
  split
  · split
    · have w1 := w.up hr (j := 2) (v := -1) (by omega) (fun e => by omega) (fun _ => Or.inl rfl) (fun e => by omega) (fun e => by omega)
      have s1 := Sm.up p hr (j := 2) (by omega) (-1)
      have w2 := w1.send (by omega) (k := 2) (by omega) hr (set := ask) (fun o ho b => by rw [s1.1 r o hr ho]; exact hs o ho b)
      have s2 := s1.trans (Sm.snd (up1 p (105 + 7 * r + 2) (-1)) (nI 2) r r ask)
      have e5 : gR (mSendAll (up1 p (105 + 7 * r + 2) (-1)) (nI 2) r ask) r 5 = gR p r 5 := by rw [gR_sall hr (by omega), gR_up (by omega)]
      have e3 : gR (mSendAll (up1 p (105 + 7 * r + 2) (-1)) (nI 2) r ask) r 3 = gR p r 3 := by rw [gR_sall hr (by omega), gR_up (by omega)]
      exact ⟨w2.mono (by omega), s2, IO_c hr e5 s2.1 io, IP_c e5 e3 ip⟩
    · exact r_go hr w (by omega) hw hs
  · next hb =>
    obtain ⟨o, ho, eo⟩ := (mBest_or p r).resolve_left hb
    rw [eo, nI_clamp (by omega)]
    obtain ⟨w1, s1, g5, g3⟩ := r_take hr ho w
    have w2 := w1.send (by omega) (k := 2) (by omega) hr (set := ask) (fun a ha b => by rw [s1.1 r a hr ha]; exact hs a ha b)
    have s2 := s1.trans (Sm.snd (mTake p r o) (nI 2) r r ask)
    have e5 : gR (mSendAll (mTake p r o) (nI 2) r ask) r 5 = gR p r 5 := by rw [gR_sall hr (by omega), g5]
    have e3 : gR (mSendAll (mTake p r o) (nI 2) r ask) r 3 = gR p r 3 := by rw [gR_sall hr (by omega), g3]
    dsimp only
    split
    · exact ⟨w2.mono (by omega), s2, IO_c hr e5 s2.1 io, IP_c e5 e3 ip⟩
    · have cb := cnt_ann (mNb_b (mSendAll (mTake p r o) (nI 2) r ask) r).1 hw
      have w3 := w2.send (by omega) (k := 0) (by omega) hr (nb_sub hw)
      have s3 := s2.trans (Sm.snd (mSendAll (mTake p r o) (nI 2) r ask) (nI 0) r r (mNb (mSendAll (mTake p r o) (nI 2) r ask) r &&& (ask ^^^ (-1))))
      have e5' := (gR_sall (p := mSendAll (mTake p r o) (nI 2) r ask) (k := nI 0) (r := r) (set := mNb (mSendAll (mTake p r o) (nI 2) r ask) r &&& (ask ^^^ (-1))) hr (j := 5) (by omega)).trans e5
      have e3' := (gR_sall (p := mSendAll (mTake p r o) (nI 2) r ask) (k := nI 0) (r := r) (set := mNb (mSendAll (mTake p r o) (nI 2) r ask) r &&& (ask ^^^ (-1))) hr (j := 3) (by omega)).trans e3
      exact ⟨w3.mono (by omega), s3, IO_c hr e5' s3.1 io, IP_c e5' e3' ip⟩
