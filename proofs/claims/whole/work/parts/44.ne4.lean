/-! ===== the program's net, changed ===== -/
/-- a net at n stands beside the row p; all else is as in h0 -/
def XN (h0 : MH) (n : Nat) (h : MH) (p : RW) : Prop := NF n h0 h ∧ NeS h n ∧ NeV h n p
theorem XN.of {h : MH} {n : Nat} {p : RW} (hS : NeS h n) (hV : NeV h n p) : XN h n h p := ⟨NF.refl n h, hS, hV⟩
theorem XN.dist {h0 h : MH} {n : Nat} {p : RW} (X : XN h0 n h p) {r : Nat} (hr : r < 7) (v : Int32) : XN h0 n (sIA h (n + 4) (up1 (hia h (n + 4)) r v)) (up1 p (105 + 7 * r + 0) v) := ⟨X.1.trans (NF.i (n := n) (a := n + 4) h _ (by omega) (by omega)), (NF.i (n := n) (a := n + 4) h _ (by omega) (by omega)).S X.2.1, X.2.2.dist hr v⟩
theorem XN.bnd {h0 h : MH} {n : Nat} {p : RW} (X : XN h0 n h p) {r : Nat} (hr : r < 7) (v : Int32) : XN h0 n (sIA h (n + 5) (up1 (hia h (n + 5)) r v)) (up1 p (105 + 7 * r + 1) v) := ⟨X.1.trans (NF.i (n := n) (a := n + 5) h _ (by omega) (by omega)), (NF.i (n := n) (a := n + 5) h _ (by omega) (by omega)).S X.2.1, X.2.2.bnd hr v⟩
theorem XN.suc {h0 h : MH} {n : Nat} {p : RW} (X : XN h0 n h p) {r : Nat} (hr : r < 7) (v : Int32) : XN h0 n (sIA h (n + 6) (up1 (hia h (n + 6)) r v)) (up1 p (105 + 7 * r + 2) v) := ⟨X.1.trans (NF.i (n := n) (a := n + 6) h _ (by omega) (by omega)), (NF.i (n := n) (a := n + 6) h _ (by omega) (by omega)).S X.2.1, X.2.2.suc hr v⟩
theorem XN.out {h0 h : MH} {n : Nat} {p : RW} (X : XN h0 n h p) {r : Nat} (hr : r < 7) (v : Int32) : XN h0 n (sIA h (n + 7) (up1 (hia h (n + 7)) r v)) (up1 p (105 + 7 * r + 4) v) := ⟨X.1.trans (NF.i (n := n) (a := n + 7) h _ (by omega) (by omega)), (NF.i (n := n) (a := n + 7) h _ (by omega) (by omega)).S X.2.1, X.2.2.out hr v⟩
theorem XN.owd {h0 h : MH} {n : Nat} {p : RW} (X : XN h0 n h p) {r : Nat} (hr : r < 7) (v : Int32) : XN h0 n (sIA h (n + 8) (up1 (hia h (n + 8)) r v)) (up1 p (105 + 7 * r + 5) v) := ⟨X.1.trans (NF.i (n := n) (a := n + 8) h _ (by omega) (by omega)), (NF.i (n := n) (a := n + 8) h _ (by omega) (by omega)).S X.2.1, X.2.2.owd hr v⟩
theorem XN.tol {h0 h : MH} {n : Nat} {p : RW} (X : XN h0 n h p) {r o : Nat} (hr : r < 7) (ho : o < 7) (v : Int32) : XN h0 n (sIA h (n + 2) (up1 (hia h (n + 2)) (r * 7 + o) v)) (up1 p (56 + 7 * r + o) v) := ⟨X.1.trans (NF.i (n := n) (a := n + 2) h _ (by omega) (by omega)), (NF.i (n := n) (a := n + 2) h _ (by omega) (by omega)).S X.2.1, X.2.2.tol hr ho v⟩
theorem XN.act1 {h0 h : MH} {n : Nat} {p : RW} (X : XN h0 n h p) {r : Nat} (hr : r < 7) : XN h0 n (sFI h n (up1 (hfi h n) 10 (hfi h n 10 ||| sh1 r))) (up1 p (105 + 7 * r + 3) (nI 1)) := ⟨X.1.trans (NF.f h _), (NF.f (n := n) h _).S X.2.1, X.2.2.act1 hr⟩
theorem XN.act0 {h0 h : MH} {n : Nat} {p : RW} (X : XN h0 n h p) {r : Nat} (hr : r < 7) : XN h0 n (sFI h n (up1 (hfi h n) 10 (hfi h n 10 &&& (sh1 r ^^^ (-1))))) (up1 p (105 + 7 * r + 3) (nI 0)) := ⟨X.1.trans (NF.f h _), (NF.f (n := n) h _).S X.2.1, X.2.2.act0 hr⟩
theorem XN.wor1 {h0 h : MH} {n : Nat} {p : RW} (X : XN h0 n h p) {r : Nat} (hr : r < 7) : XN h0 n (sFI h n (up1 (hfi h n) 11 (hfi h n 11 ||| sh1 r))) (up1 p (105 + 7 * r + 6) (nI 1)) := ⟨X.1.trans (NF.f h _), (NF.f (n := n) h _).S X.2.1, X.2.2.wor1 hr⟩
theorem XN.wor0 {h0 h : MH} {n : Nat} {p : RW} (X : XN h0 n h p) {r : Nat} (hr : r < 7) : XN h0 n (sFI h n (up1 (hfi h n) 11 (hfi h n 11 &&& (sh1 r ^^^ (-1))))) (up1 p (105 + 7 * r + 6) (nI 0)) := ⟨X.1.trans (NF.f h _), (NF.f (n := n) h _).S X.2.1, X.2.2.wor0 hr⟩
theorem y_sends (d n r : Nat) (hr : r < 7) (kd set : Int32) {h0 h : MH} {p : RW} (X : XN h0 n h p) (hQ : p 6 = nI (ql p)) (hB : ql p + cnt set ≤ 420) (Q : RT) (kk : ∀ h', XN h0 n h' (mSendAll p kd r set) → Q none h') : callD (d + 1) 28 [.ref n, .int kd, .int (nI r), .int set] h Q := x_sends d n r hr kd set X.2.1 X.2.2 hQ hB Q (fun h' F V => kk h' ⟨X.1.trans F, F.S X.2.1, V⟩)
theorem sndAll_0 (p : RW) (k : Int32) (r : Nat) : mSendAll p k r (nI 0) = p := by
  have : ∀ (m i : Nat) (p : RW), i + m ≤ 7 → itr (fun p o => if bt (nI 0) o = nI 1 then mSend p k (nI r) (nI o) r else p) i m p = p := by
    intro m
    induction m with
    | zero => intro i p _; rfl
    | succ m ih => intro i p hi; rw [itr_s, if_neg (by rw [bt_0 i (by omega)]; exact n01)]; exact ih (i + 1) p (by omega)
  exact this 7 0 p (by omega)
theorem mNb_up2 {p : RW} {r k : Nat} {v : Int32} (hr : r < 7) (h : 56 ≤ k) : mNb (up1 p k v) r = mNb p r := mNb_up hr h
theorem mBy_up {p : RW} {r o k : Nat} {v : Int32} (hr : r < 7) (ho : o < 7) (h : 105 ≤ k) : mBy (up1 p k v) r o = mBy p r o := mBy_c (gC_up (by omega)) (gT_up (by omega))
theorem mLeast_up {p : RW} {r k : Nat} {v : Int32} (hr : r < 7) (h : 105 ≤ k) : mLeast (up1 p k v) r = mLeast p r := mLeast_c (fun o ho => ⟨gC_up (by omega), gT_up (by omega)⟩)
/-- costs are not below 0 -/
def CN (p : RW) : Prop := ∀ r o, r < 7 → o < 7 → ¬ gC p r o < nI 0
theorem nb0_by {p : RW} (hC : CN p) {r : Nat} (hr : r < 7) (h : mNb p r = nI 0) {o : Nat} (ho : o < 7) : mBy p r o = nI 9999 := by
  have h1 := (mNb_b p r).2 o ho
  rw [h, bt_0 o ho] at h1
  have h2 : ¬ nI 0 < gC p r o := fun q => n01 (h1.mpr q)
  have h3 : gC p r o = nI 0 := Int32.le_antisymm (Int32.not_lt.mp h2) (Int32.not_lt.mp (hC r o hr ho))
  unfold mBy
  rw [if_pos (Or.inl h3)]
theorem nb0_least {p : RW} (hC : CN p) {r : Nat} (hr : r < 7) (h : mNb p r = nI 0) : mLeast p r = nI 9999 := by
  obtain ⟨-, ⟨-, -, a⟩, -⟩ := tl_res p r (nI 0)
  rcases a with a | ⟨o, ho, a⟩
  · exact a
  · rw [a]; exact nb0_by hC hr h ho
theorem mLow_far (p : RW) (r : Nat) : mLow p r (nI 9999) = -1 := by
  rcases itd_min (P := fun o => nI 9999 < nI 9999 ∧ mBy p r o = nI 9999) (g := fun x o => if nI 9999 < nI 9999 ∧ mBy p r o = nI 9999 then nI o else x) (fun x o h => if_pos h) (fun x o h => if_neg h) 7 (-1) with ⟨j, -, ⟨q, -⟩, -⟩ | ⟨-, e⟩
  · exact absurd q (Int32.lt_irrefl)
  · exact e
theorem mGo_n {p : RW} {r : Nat} {ow : Int32} (hr : r < 7) (h : ¬ mNb p r = nI 0) : mGo p r ow = mSendAll (up1 (mAct1 p r ow) (105 + 7 * r + 4) (mNb p r)) (nI 1) r (mNb p r) := by
  have e : mNb (mAct1 p r ow) r = mNb p r := mNb_c (fun o ho => by unfold gC; exact mAct1_lo (by omega) hr)
  have e2 : mAct2 p r ow = mSendAll (up1 (mAct1 p r ow) (105 + 7 * r + 4) (mNb p r)) (nI 1) r (mNb p r) := by unfold mAct2; dsimp only; rw [e]
  unfold mGo
  rw [e2, if_neg]
  unfold gR
  rw [mSendAll_lo (by omega) (by omega), up1_s]
  exact h
theorem mGo_0 {p : RW} {r : Nat} (hr : r < 7) (hC : CN p) (hs : SU (gR p r 2)) (h : mNb p r = nI 0) : mGo p r (nI 0) = up1 (up1 (up1 (up1 (up1 (up1 (up1 p (105 + 7 * r + 0) (nI 9999)) (105 + 7 * r + 1) (nI 9999)) (105 + 7 * r + 6) (nI 0)) (105 + 7 * r + 2) (-1)) (105 + 7 * r + 3) (nI 0)) (105 + 7 * r + 4) (nI 0)) (105 + 7 * r + 5) (nI 0) := by
  have hv : (if gR p r 2 = -1 then nI 9999 else mBy p r (gR p r 2).toNatClampNeg) = nI 9999 := by
    rcases hs with e | ⟨o, ho, e⟩
    · rw [if_pos e]
    · rw [e, if_neg (by rw [nI_m1 (by omega)]; exact id), nI_clamp (by omega)]; exact nb0_by hC hr h ho
  have e : mNb (mAct1 p r (nI 0)) r = nI 0 := (mNb_c (fun o ho => by unfold gC; exact mAct1_lo (by omega) hr)).trans h
  have e2 : mAct2 p r (nI 0) = up1 (mAct1 p r (nI 0)) (105 + 7 * r + 4) (nI 0) := by unfold mAct2; dsimp only; rw [e, sndAll_0]
  have eL : ∀ q : RW, (∀ j, j < 105 → q j = p j) → mLeast q r = nI 9999 := fun q hq => (mLeast_c (fun o ho => ⟨hq _ (by omega), hq _ (by omega)⟩)).trans (nb0_least hC hr h)
  have h4 : gR (mAct2 p r (nI 0)) r 4 = nI 0 := by rw [e2]; exact up1_s _ _ _
  have hl : mLeast (up1 (mAct2 p r (nI 0)) (105 + 7 * r + 3) (nI 0)) r = nI 9999 := eL _ (fun j hj => by rw [e2, up1_n _ _ (by omega), up1_n _ _ (by omega)]; exact mAct1_lo (by omega) hr)
  unfold mGo
  rw [if_pos h4]
  unfold mTail mEnd0
  dsimp only
  rw [hl, mLow_far, e2]
  unfold mAct1 gR
  rw [show (if p (105 + 7 * r + 2) = -1 then nI 9999 else mBy p r (p (105 + 7 * r + 2)).toNatClampNeg) = nI 9999 from hv]
  simp (disch := omega) only [Nat.add_zero, up1_s, up1_n, sndAll_0, if_true, up1_up1, up1_c]

/-! ===== how many are sent ===== -/
set_option maxRecDepth 100000 in
theorem btT : ∀ m, m < 128 → ∀ o, o < 7 → bt (nI m) o = if m.testBit o then nI 1 else nI 0 := by decide +kernel
set_option maxRecDepth 100000 in
theorem anN : ((List.range 128).all fun m => (List.range 128).all fun k => decide (nI k &&& (nI m ^^^ (-1 : Int32)) = nI (k &&& (127 ^^^ m)))) = true := by decide +kernel
theorem tb127 : ∀ o, o < 7 → Nat.testBit 127 o = true := by decide
theorem M7.ann {x a : Int32} (hx : M7 x) (ha : M7 a) : M7 (x &&& (a ^^^ (-1))) ∧ ∀ o, o < 7 → (Jvm.Pilot.CDiffusingRoutesLaw_law_r4474_45e1b3.bt (x &&& (a ^^^ (-1))) o = nI 1 ↔ Jvm.Pilot.CDiffusingRoutesLaw_law_r4474_45e1b3.bt x o = nI 1 ∧ ¬ Jvm.Pilot.CDiffusingRoutesLaw_law_r4474_45e1b3.bt a o = nI 1) := by
  obtain ⟨k, k1, rfl⟩ := hx
  obtain ⟨m, m1, rfl⟩ := ha
  have e := of_decide_eq_true (List.all_eq_true.mp (List.all_eq_true.mp anN m (List.mem_range.mpr m1)) k (List.mem_range.mpr k1))
  have hl : k &&& (127 ^^^ m) < 128 := Nat.lt_of_le_of_lt Nat.and_le_left k1
  rw [e]
  refine ⟨⟨_, hl, rfl⟩, fun o ho => ?_⟩
  rw [btT _ hl o ho, btT _ k1 o ho, btT _ m1 o ho, Nat.testBit_and, Nat.testBit_xor, tb127 o ho]
  cases k.testBit o <;> cases m.testBit o <;> simp [n01, n10]
theorem cnt_dis {a b : Int32} (h : ∀ o, o < 7 → ¬ (bt a o = nI 1 ∧ bt b o = nI 1)) : cnt a + cnt b ≤ 7 := by
  have : ∀ (m i : Nat), i + m ≤ 7 → itr (fun n o => if bt a o = nI 1 then n + 1 else n) i m 0 + itr (fun n o => if bt b o = nI 1 then n + 1 else n) i m 0 ≤ m := by
    intro m
    induction m with
    | zero => intro i _; exact Nat.le_refl _
    | succ m ih =>
      intro i hi
      rw [itr_s, itr_s]
      have := ih (i + 1) (by omega)
      have hn := h i (by omega)
      by_cases c1 : bt a i = nI 1
      · rw [if_pos c1, if_neg (fun q => hn ⟨c1, q⟩), cnt_add a]; omega
      · rw [if_neg c1]
        by_cases c2 : bt b i = nI 1
        · rw [if_pos c2, cnt_add b]; omega
        · rw [if_neg c2]; omega
  exact this 7 0 (by omega)
theorem cnt_ann {x a : Int32} (hx : M7 x) (ha : M7 a) : cnt a + cnt (x &&& (a ^^^ (-1))) ≤ 7 := cnt_dis (fun o ho q => ((hx.ann ha).2 o ho).mp q.2 |>.2 q.1)
/-- what does not look at a place is moved over it -/
theorem mSend_up {p : RW} {k f t : Int32} {r j : Nat} {v : Int32} (h1 : j < 154) (h2 : ¬ 6 = j) (h3 : ¬ 105 + 7 * r + 0 = j) : mSend (up1 p j v) k f t r = up1 (mSend p k f t r) j v := by
  unfold mSend
  rw [ql_up h2, gR_up h3]
  by_cases c : j < 6
  · simp (disch := omega) only [up1_c]
  · rw [show ∀ q : RW, up1 (up1 q 6 (nI (ql p + 1))) j v = up1 (up1 q j v) 6 (nI (ql p + 1)) from fun q => (up1_c q _ _ (by omega)).symm]
    simp (disch := omega) only [up1_c]
theorem mSendAll_up {p : RW} {k : Int32} {r : Nat} {set : Int32} {j : Nat} {v : Int32} (h1 : j < 154) (h2 : ¬ 6 = j) (h3 : ¬ 105 + 7 * r + 0 = j) : mSendAll (up1 p j v) k r set = up1 (mSendAll p k r set) j v := by
  have : ∀ (m i : Nat) (p : RW), itr (fun p o => if bt set o = nI 1 then mSend p k (nI r) (nI o) r else p) i m (up1 p j v) = up1 (itr (fun p o => if bt set o = nI 1 then mSend p k (nI r) (nI o) r else p) i m p) j v := by
    intro m
    induction m with
    | zero => intro i p; rfl
    | succ m ih =>
      intro i p
      rw [itr_s, itr_s]
      by_cases c : bt set i = nI 1
      · rw [if_pos c, if_pos c, mSend_up h1 h2 h3, ih]
      · rw [if_neg c, if_neg c, ih]
  exact this 7 0 p
theorem gR_sall {p : RW} {k : Int32} {r : Nat} {set : Int32} {s j : Nat} (hs : s < 7) (hj : j < 7) : gR (mSendAll p k r set) s j = gR p s j := mSendAll_lo (by omega) (by omega)
theorem gC_sall {p : RW} {k : Int32} {r : Nat} {set : Int32} {s j : Nat} (hs : s < 7) (hj : j < 7) : gC (mSendAll p k r set) s j = gC p s j := mSendAll_lo (by omega) (by omega)
theorem gT_sall {p : RW} {k : Int32} {r : Nat} {set : Int32} {s j : Nat} (hs : s < 7) (hj : j < 7) : gT (mSendAll p k r set) s j = gT p s j := mSendAll_lo (by omega) (by omega)
theorem mNb_sall {p : RW} {k : Int32} {r : Nat} {set : Int32} {s : Nat} (hs : s < 7) : mNb (mSendAll p k r set) s = mNb p s := mNb_c (fun o ho => gC_sall hs ho)
theorem ql_sall {p : RW} {k : Int32} {r : Nat} {set : Int32} (h : p 6 = nI (ql p)) (hn : ql p < 1000) : ql (mSendAll p k r set) = ql p + cnt set := by
  have := cnt_le set
  exact ql_of (mSendAll_6 h hn) (by omega)
