/-! ===== a message is delivered ===== -/
def mHear (p : RW) (t f k : Nat) : RW := if t = 0 then mSendAll p (nI 2) t (if k = 1 then sh1 f else nI 0) else if gR p t 3 = nI 0 then mDecide p t (if k = 1 then sh1 f else nI 0) else mTA p t f k
def mTime (p : RW) : RW := up1 p 5 (p 5 + (if p 5 < nI 999 then nI 1 else nI 0))
def mDlv (p : RW) (i k f t d : Nat) : RW := mTime (mHear (mOut (up1 p (56 + 7 * t + f) (nI d)) i) t f k)
theorem mHear_5 {p : RW} {v : Int32} {t f k : Nat} (hf : f < 7) (hs : SU (gR p t 2)) : mHear (up1 p 5 v) t f k = up1 (mHear p t f k) 5 v := by
  unfold mHear
  rw [mSall_5, gR_5, mDecide_5 hs, mTA_5 hf hs]
  split
  · rfl
  · split <;> rfl
theorem mHear_at5 {p : RW} {t f k : Nat} (hf : f < 7) (hs : SU (gR p t 2)) : mHear p t f k 5 = p 5 := by
  have h := mHear_5 (v := p 5) (k := k) hf hs
  rw [up1_id] at h
  rw [h, up1_s]
theorem mOut_lo {p : RW} {i j : Nat} (h1 : j < 154) (h2 : j ≠ 6) : mOut p i j = p j := by
  unfold mOut shF
  rw [if_neg (by omega), up1_n _ _ h2]
theorem mOut_6 {p : RW} {i : Nat} : mOut p i 6 = nI (ql p - 1) := by
  unfold mOut shF
  rw [if_neg (by omega), up1_s]
theorem mOut_up {p : RW} {i j : Nat} {v : Int32} (h1 : j < 154) (h2 : j ≠ 6) : mOut (up1 p j v) i = up1 (mOut p i) j v := by
  unfold mOut
  rw [ql_up (by omega)]
  funext q
  by_cases e : q = j
  · subst e
    rw [up1_s]
    unfold shF
    rw [if_neg (by omega), up1_n _ _ h2, up1_s]
  · rw [up1_n _ _ e]
    unfold shF
    by_cases c : 154 + 4 * i ≤ q ∧ q < 154 + 4 * (ql p - 1)
    · rw [if_pos c, if_pos c, up1_n _ _ (by omega), up1_n _ _ (by omega), up1_n _ _ (by omega)]
    · rw [if_neg c, if_neg c]
      by_cases e6 : q = 6
      · subst e6; rw [up1_s, up1_s]
      · rw [up1_n _ _ e6, up1_n _ _ e6, up1_n _ _ e]
theorem pk_out {p : RW} {i j : Nat} (hj : j < ql p - 1) (hi : i < ql p) : pk (mOut p i) j = if j < i then pk p j else pk p (j + 1) := by
  have key : ∀ c, c < 4 → mOut p i (154 + 4 * j + c) = if j < i then p (154 + 4 * j + c) else p (154 + 4 * (j + 1) + c) := by
    intro c hc
    unfold mOut shF
    by_cases e : j < i
    · rw [if_pos e, if_neg (by omega), up1_n _ _ (by omega)]
    · rw [if_neg e, if_pos (by omega), up1_n _ _ (by omega), show 154 + 4 * j + c + 4 = 154 + 4 * (j + 1) + c by omega]
  have k0 := key 0 (by omega)
  rw [Nat.add_zero, Nat.add_zero] at k0
  unfold pk
  rw [k0, key 1 (by omega), key 2 (by omega), key 3 (by omega)]
  by_cases e : j < i
  · rw [if_pos e, if_pos e, if_pos e, if_pos e, if_pos e]
  · rw [if_neg e, if_neg e, if_neg e, if_neg e, if_neg e]
theorem NeV.lo {h h' : MH} {n : Nat} {p q : RW} (V : NeV h n p) (e1 : ∀ a, (a ≤ n ∨ n + 9 ≤ a) ∨ hia h' a = hia h a) (e2 : ∀ k, k ≠ 9 → hfi h' n k = hfi h n k) (e3 : ∀ j, j < 154 → j ≠ 6 → q j = p j) (e4 : hfi h' n 9 = q 6) (e5 : ∀ i, i < ql q → hia h' (n + 9) i = pk q i) : NeV h' n q := by
  obtain ⟨v1, v2, v3, v4, v5, v6, v7, v8, v9, v10, v11, v12, v13⟩ := V
  have ia : ∀ j, 1 ≤ j → j ≤ 8 → hia h' (n + j) = hia h (n + j) := fun j h1 h2 => (e1 (n + j)).resolve_left (by omega)
  refine ⟨fun r o h1 h2 => ?_, fun r o h1 h2 => ?_, fun r h1 => ?_, fun r h1 => ?_, fun r h1 => ?_, fun r h1 => ?_, fun r h1 => ?_, fun r h1 => ?_, e5, e4, ?_, ?_, ?_⟩
  · rw [ia 1 (by omega) (by omega)]; exact (v1 r o h1 h2).trans (e3 _ (by omega) (by omega)).symm
  · rw [ia 2 (by omega) (by omega)]; exact (v2 r o h1 h2).trans (e3 _ (by omega) (by omega)).symm
  · rw [ia 3 (by omega) (by omega)]; exact (v3 r h1).trans (mNb_c (fun o ho => (e3 _ (by omega) (by omega)).symm))
  · rw [ia 4 (by omega) (by omega)]; exact (v4 r h1).trans (e3 _ (by omega) (by omega)).symm
  · rw [ia 5 (by omega) (by omega)]; exact (v5 r h1).trans (e3 _ (by omega) (by omega)).symm
  · rw [ia 6 (by omega) (by omega)]; exact (v6 r h1).trans (e3 _ (by omega) (by omega)).symm
  · rw [ia 7 (by omega) (by omega)]; exact (v7 r h1).trans (e3 _ (by omega) (by omega)).symm
  · rw [ia 8 (by omega) (by omega)]; exact (v8 r h1).trans (e3 _ (by omega) (by omega)).symm
  · rw [e2 10 (by omega)]; exact bits7_c (fun r hr => e3 _ (by omega) (by omega)) v11
  · rw [e2 11 (by omega)]; exact bits7_c (fun r hr => e3 _ (by omega) (by omega)) v12
  · rw [e2 12 (by omega)]; exact v13.trans (e3 _ (by omega) (by omega)).symm
theorem XN.rem {h0 h : MH} {n : Nat} {p : RW} (X : XN h0 n h p) (hQ : QL p 420) {i : Nat} (hi : i < ql p) : XN h0 n (sFI (sIA h (n + 9) (va_cpy (hia h (n + 9)) (hia h (n + 9)) (i + 1) i (ql p - 1 - i))) n (up1 (hfi h n) 9 (nI (ql p - 1)))) (mOut p i) := by
  have hq2 := hQ.2
  refine ⟨X.1.trans ((NF.i (n := n) (a := n + 9) h _ (by omega) (by omega)).trans (NF.f _ _)), (NF.f (n := n) _ _).S ((NF.i (n := n) (a := n + 9) h _ (by omega) (by omega)).S X.2.1), ?_⟩
  refine X.2.2.lo (fun a => ?_) (fun k hk => ?_) (fun j h1 h2 => mOut_lo h1 h2) ?_ (fun j hj => ?_)
  · by_cases e : a ≤ n ∨ n + 9 ≤ a
    · exact Or.inl e
    · exact Or.inr (hia_n h _ (by omega))
  · rw [hfi_s, up1_n _ _ hk]
  · rw [hfi_s, up1_s, mOut_6]
  · rw [ql_of mOut_6 (by omega)] at hj
    rw [pk_out hj hi]
    show hia (sIA h (n + 9) _) (n + 9) j = _
    rw [hia_s]
    unfold va_cpy
    have v9 := X.2.2.2.2.2.2.2.2.2.2.1
    by_cases e : j < i
    · rw [if_neg (by omega), if_pos e]; exact v9 j (by omega)
    · rw [if_pos (by omega), if_neg e, show i + 1 + (j - i) = j + 1 by omega]; exact v9 (j + 1) (by omega)
theorem XN.tim {h0 h : MH} {n : Nat} {p : RW} (X : XN h0 n h p) (v : Int32) : XN h0 n (sFI h n (up1 (hfi h n) 12 v)) (up1 p 5 v) := by
  refine ⟨X.1.trans (NF.f h _), (NF.f (n := n) h _).S X.2.1, ?_⟩
  obtain ⟨v1, v2, v3, v4, v5, v6, v7, v8, v9, v10, v11, v12, v13⟩ := X.2.2
  refine ⟨fun r o h1 h2 => ?_, fun r o h1 h2 => ?_, fun r h1 => ?_, fun r h1 => ?_, fun r h1 => ?_, fun r h1 => ?_, fun r h1 => ?_, fun r h1 => ?_, fun i hi => ?_, ?_, ?_, ?_, ?_⟩
  · rw [gC_up (by omega)]; exact v1 r o h1 h2
  · rw [gT_up (by omega)]; exact v2 r o h1 h2
  · rw [mNb_5]; exact v3 r h1
  · rw [gR_5]; exact v4 r h1
  · rw [gR_5]; exact v5 r h1
  · rw [gR_5]; exact v6 r h1
  · rw [gR_5]; exact v7 r h1
  · rw [gR_5]; exact v8 r h1
  · rw [ql_up (by omega)] at hi; rw [pk_up (by omega)]; exact v9 i hi
  · rw [hfi_s, up1_n _ _ (by omega), up1_n _ _ (by omega)]; exact v10
  · rw [hfi_s, up1_n _ _ (by omega)]; exact bits7_c (fun r hr => gR_5) v11
  · rw [hfi_s, up1_n _ _ (by omega)]; exact bits7_c (fun r hr => gR_5) v12
  · rw [hfi_s, up1_s, up1_s]
