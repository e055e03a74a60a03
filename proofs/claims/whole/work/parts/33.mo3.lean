theorem hia_s (h : MH) (a : Nat) (f : Nat → Int32) : hia (sIA h a f) a = f := up1_s (hia h) a f
def mSendAll (p : RW) (k : Int32) (r : Nat) (set : Int32) : RW := itr (fun p o => if bt set o = nI 1 then mSend p k (nI r) (nI o) r else p) 0 7 p
theorem mSend_6 {p : RW} {k f t : Int32} {r : Nat} : mSend p k f t r 6 = nI (ql p + 1) := up1_s _ _ _
theorem mSend_lo {p : RW} {k f t : Int32} {r j : Nat} (h1 : j < 154) (h2 : j ≠ 6) : mSend p k f t r j = p j := by
  unfold mSend
  rw [up1_n _ _ (by omega), up1_n _ _ (by omega), up1_n _ _ (by omega), up1_n _ _ (by omega), up1_n _ _ (by omega)]
theorem sndG_lo (k : Int32) (r : Nat) (set : Int32) {j : Nat} (h1 : j < 154) (h2 : j ≠ 6) : ∀ (m i : Nat) (p : RW), itr (fun p o => if bt set o = nI 1 then mSend p k (nI r) (nI o) r else p) i m p j = p j
  | 0, _, _ => rfl
  | m + 1, i, p => by
    rw [itr_s, sndG_lo k r set h1 h2 m (i + 1)]
    split
    · exact mSend_lo h1 h2
    · rfl
theorem mSendAll_lo {p : RW} {k : Int32} {r : Nat} {set : Int32} {j : Nat} (h1 : j < 154) (h2 : j ≠ 6) : mSendAll p k r set j = p j := sndG_lo k r set h1 h2 7 0 p
/-- how many are sent to -/
def cnt (set : Int32) : Nat := itr (fun n o => if bt set o = nI 1 then n + 1 else n) 0 7 0
theorem sndG_6 (k : Int32) (r : Nat) (set : Int32) : ∀ (m i : Nat) (p : RW) (n : Nat), p 6 = nI n → n + m < 5000 → m ≤ 7 → i + m = 7 → itr (fun p o => if bt set o = nI 1 then mSend p k (nI r) (nI o) r else p) i m p 6 = nI (itr (fun n o => if bt set o = nI 1 then n + 1 else n) i m n) ∧ itr (fun n o => if bt set o = nI 1 then n + 1 else n) i m n ≤ n + m
  | 0, _, _, _, h, _, _, _ => ⟨h, Nat.le_refl _⟩
  | m + 1, i, p, n, h, hn, hm, hi => by
    rw [itr_s, itr_s]
    by_cases c : bt set i = nI 1
    · rw [if_pos c, if_pos c]
      have := sndG_6 k r set m (i + 1) (mSend p k (nI r) (nI i) r) (n + 1) (by rw [mSend_6, ql_of h (by omega)]) (by omega) (by omega) (by omega)
      exact ⟨this.1, by omega⟩
    · rw [if_neg c, if_neg c]
      have := sndG_6 k r set m (i + 1) p n h (by omega) (by omega) (by omega)
      exact ⟨this.1, by omega⟩
  termination_by m => m
theorem cnt_add (set : Int32) : ∀ (m i n : Nat), itr (fun n o => if bt set o = nI 1 then n + 1 else n) i m n = n + itr (fun n o => if bt set o = nI 1 then n + 1 else n) i m 0
  | 0, _, _ => rfl
  | m + 1, i, n => by
    rw [itr_s, itr_s]
    by_cases c : bt set i = nI 1
    · rw [if_pos c, if_pos c, cnt_add set m (i + 1) (n + 1), cnt_add set m (i + 1) (0 + 1)]; omega
    · rw [if_neg c, if_neg c, cnt_add set m (i + 1) n]
theorem mSendAll_6 {p : RW} {k : Int32} {r : Nat} {set : Int32} {n : Nat} (h : p 6 = nI n) (hn : n < 1000) : mSendAll p k r set 6 = nI (n + cnt set) := by
  have := (sndG_6 k r set 7 0 p n h (by omega) (by omega) (by omega)).1
  rw [cnt_add] at this
  exact this
theorem cnt_le (set : Int32) : cnt set ≤ 7 := by
  have := (sndG_6 0 0 set 7 0 (fun _ => nI 0) 0 rfl (by omega) (by omega) (by omega)).2
  unfold cnt; omega
theorem l_sendAll (d f : Nat) (hf : f < 7) (kd set : Int32) (Q : RT) (lm : Nat × Nat) : ∀ (m k n : Nat) (h : MH), MoS h → hia h 275 6 = nI n → n + m ≤ 460 → k + m = 7 → WP cd_Mo_sendAll (callD (d + 2)) Q lm 3 [] [some (.ref 273), some (.int kd), some (.int (nI f)), some (.int set), some (.int (nI k))] h = Q none (sIA h 275 (itr (fun p o => if bt set o = nI 1 then mSend p kd (nI f) (nI o) f else p) k m (hia h 275)))
  | 0, k, n, h, hM, hq, hn, hk => by
    obtain rfl : k = 7 := by omega
    rw [U_Mo_sendAll_3 (cm _)]
    simp (disch := omega) only [U_Mo_sendAll (cm _), SA, SB, SG, SV, leI, itr_0, Nat.le_refl, true_implies, not_true_eq_false, false_implies, and_true, sIA_id]
  | m + 1, k, n, h, hM, hq, hn, hk => by
    have hk7 : ¬ 7 ≤ k := by omega
    rw [U_Mo_sendAll_3 (cm _), itr_s]
    by_cases c : bt set k = nI 1
    · have ih := l_sendAll d f hf kd set Q lm m (k + 1) (n + 1) (sIA h 275 (mSend (hia h 275) kd (nI f) (nI k) f)) hM (by
        rw [hia_s, mSend_6, ql_of hq (by omega)]) (by omega) (by omega)
      rw [hia_s] at ih
      simp (disch := first | omega | exact hM) only [U_Mo_sendAll (cm _), SA, SB, SC1, SC2, SG, SV, leI, hk7, hM.1, e_is, e_send d f hf kd _ hM hq (by omega), nI_add, b01, c, eqI, Nat.one_ne_zero, true_implies, not_true_eq_false, not_false_eq_true, false_implies, and_true, true_and, if_true, ih, SK]
    · have ih := l_sendAll d f hf kd set Q lm m (k + 1) n h hM hq (by omega) (by omega)
      simp (disch := first | omega | exact hM) only [U_Mo_sendAll (cm _), SA, SB, SC1, SC2, SG, SV, leI, hk7, hM.1, e_is, nI_add, b01, c, eqI, true_implies, not_true_eq_false, not_false_eq_true, false_implies, and_true, true_and, if_false, ih]
theorem e_sendAll (d f : Nat) (hf : f < 7) (kd set : Int32) {h : MH} (hM : MoS h) {n : Nat} (hq : hia h 275 6 = nI n) (hn : n ≤ 453) (Q : RT) : callD (d + 3) 201 [.ref 273, .int kd, .int (nI f), .int set] h Q = Q none (sIA h 275 (mSendAll (hia h 275) kd f set)) := by
  rw [E_Mo_sendAll]
  simp only [U_Mo_sendAll (cm _), SA, SB, SG, SV]
  exact l_sendAll d f hf kd set Q _ 7 0 n h hM hq (by omega) rfl
def mTake (p : RW) (r o : Nat) : RW := up1 (up1 (up1 p (105 + 7 * r) (mBy p r o)) (105 + 7 * r + 2) (nI o)) (105 + 7 * r + 1) (if mBy p r o < gR p r 1 then mBy p r o else gR p r 1)
theorem e_take (d r o : Nat) (hr : r < 7) (ho : o < 7) {h : MH} (hM : MoS h) (Q : RT) : callD (d + 3) 202 [.ref 273, .int (nI r), .int (nI o)] h Q = Q none (sIA h 275 (mTake (hia h 275) r o)) := by
  obtain ⟨m1, m2, m3, m4⟩ := hM.row
  rw [E_Mo_take]
  simp (disch := first | omega | exact hM) only [U_Mo_take (cm _), SA, SB, SC1, SC2, SG, SV, SK, pk_mul, nI_add, nI_clamp, in_eq, m1, m2, m3, m4, true_and, and_true, e_routerAt, e_by, up1_s, up1_n, mTake, gR, Nat.add_zero, Nat.reduceLeDiff]
  by_cases c : mBy (hia h 275) r o < hia h 275 (105 + 7 * r + 1)
  · have c' : ¬ hia h 275 (105 + 7 * r + 1) ≤ mBy (hia h 275) r o := Int32.not_le.mpr c
    simp only [c, c', true_implies, not_true_eq_false, not_false_eq_true, false_implies, and_true, true_and, if_true]
  · have c' : hia h 275 (105 + 7 * r + 1) ≤ mBy (hia h 275) r o := Int32.not_lt.mp c
    simp only [c, c', true_implies, not_true_eq_false, not_false_eq_true, false_implies, and_true, true_and, if_false]
/-- the end of an active time, behind what was decided -/
def mTail (p : RW) (r : Nat) (had : Int32) : RW :=
  let p1 := up1 p (105 + 7 * r + 5) (nI 0)
  let p2 := mSendAll p1 (nI 2) r (gR p r 5)
  if gR p2 r 0 = had then p2 else mSendAll p2 (nI 0) r (mNb p2 r &&& (gR p r 5 ^^^ (-1)))
def mEnd0 (p : RW) (r : Nat) : RW := up1 (up1 (up1 p (105 + 7 * r + 2) (mLow p r (mLeast p r))) (105 + 7 * r) (mLeast p r)) (105 + 7 * r + 1) (mLeast p r)
def mAct1 (p : RW) (r : Nat) (owed : Int32) : RW :=
  let v := if gR p r 2 = -1 then nI 9999 else mBy p r (gR p r 2).toNatClampNeg
  up1 (up1 (up1 (up1 (up1 p (105 + 7 * r) v) (105 + 7 * r + 1) v) (105 + 7 * r + 3) (nI 1)) (105 + 7 * r + 6) (nI 0)) (105 + 7 * r + 5) owed
def mAct2 (p : RW) (r : Nat) (owed : Int32) : RW :=
  let p1 := mAct1 p r owed
  let p2 := up1 p1 (105 + 7 * r + 4) (mNb p1 r)
  mSendAll p2 (nI 1) r (mNb p1 r)
def mGo (p : RW) (r : Nat) (owed : Int32) : RW :=
  let p2 := mAct2 p r owed
  if gR p2 r 4 = nI 0 then (let p3 := up1 p2 (105 + 7 * r + 3) (nI 0); mTail (mEnd0 p3 r) r (gR p2 r 0)) else p2
def mEnds (p : RW) (r : Nat) : RW :=
  let p1 := up1 p (105 + 7 * r + 3) (nI 0)
  if gR p r 6 = nI 0 then mTail (mEnd0 p1 r) r (gR p r 0)
  else if mBest p1 r = -1 then mGo p1 r (gR p r 5)
  else mTail (up1 (mTake p1 r (mBest p1 r).toNatClampNeg) (105 + 7 * r + 6) (nI 0)) r (gR p r 0)
def mDecide (p : RW) (r : Nat) (ask : Int32) : RW :=
  if mBest p r = -1 then (if gR p r 0 = nI 9999 ∧ mLeast p r = nI 9999 then mSendAll (up1 p (105 + 7 * r + 2) (-1)) (nI 2) r ask else mGo p r ask)
  else (let p2 := mSendAll (mTake p r (mBest p r).toNatClampNeg) (nI 2) r ask
    if gR p2 r 0 = gR p r 0 then p2 else mSendAll p2 (nI 0) r (mNb p2 r &&& (ask ^^^ (-1))))
theorem itd_or {g : Int32 → Nat → Int32} (hg : ∀ x o, o < 7 → g x o = x ∨ g x o = nI o) : ∀ (m : Nat) (x : Int32), m ≤ 7 → itd g m x = x ∨ ∃ o, o < 7 ∧ itd g m x = nI o
  | 0, x, _ => Or.inl rfl
  | m + 1, x, hm => by
    rw [itd_s]
    rcases hg x m (by omega) with e | e <;> rw [e]
    · exact itd_or hg m x (by omega)
    · rcases itd_or hg m (nI m) (by omega) with e2 | e2
      · exact Or.inr ⟨m, by omega, e2⟩
      · exact Or.inr e2
theorem mBest_or (p : RW) (r : Nat) : mBest p r = -1 ∨ ∃ o, o < 7 ∧ mBest p r = nI o := itd_or (fun x o _ => by split; exact Or.inr rfl; exact Or.inl rfl) 7 _ (by omega)
theorem mLow_or (p : RW) (r : Nat) (v : Int32) : mLow p r v = -1 ∨ ∃ o, o < 7 ∧ mLow p r v = nI o := itd_or (fun x o _ => by split; exact Or.inr rfl; exact Or.inl rfl) 7 _ (by omega)
theorem MoS_s : (∀ (h : MH) (a : Nat) (f : Nat → Int32), MoS (sIA h a f) = MoS h) ∧ (∀ (h : MH) (a : Nat) (f : Nat → Int32), MoS (sFI h a f) = MoS h) ∧ (∀ (h : MH) (a : Nat) (f : Nat → Int64), MoS (sJA h a f) = MoS h) ∧ (∀ (h : MH) (a : Nat) (f : Nat → Int64), MoS (sFJ h a f) = MoS h) ∧ (∀ (h : MH) (a : Nat) (f : Nat → Option Nat), MoS (sRA h a f) = MoS h) := ⟨fun _ _ _ => rfl, fun _ _ _ => rfl, fun _ _ _ => rfl, fun _ _ _ => rfl, fun _ _ _ => rfl⟩
