/-! ===== messages, packed and unpacked ===== -/
theorem nI_or (a b : Nat) : nI a ||| nI b = nI (a ||| b) := by
  unfold nI
  apply Int32.toBitVec.inj
  show BitVec.ofNat 32 a ||| BitVec.ofNat 32 b = BitVec.ofNat 32 (a ||| b)
  exact (BitVec.ofNat_or).symm
set_option maxRecDepth 100000 in
theorem pk_lo : ∀ k, k < 3 → ∀ f, f < 7 → ∀ t, t < 7 → (nI k ||| (nI f <<< (nI 2 &&& 31))) ||| (nI t <<< (nI 5 &&& 31)) = nI (k + 4 * f + 32 * t) := by decide +kernel
theorem pkm_eq {k f t d : Nat} (hk : k < 3) (hf : f < 7) (ht : t < 7) (hd : d ≤ 9999) : pkm (nI k) (nI f) (nI t) (nI d) = nI (k + 4 * f + 32 * t + 256 * d) := by
  unfold pkm
  rw [pk_lo k hk f hf t ht, pk_shlN (nI 8 &&& 31) 8 (by decide) (by omega), nI_or]
  have h := Nat.shiftLeft_add_eq_or_of_lt (i := 8) (b := k + 4 * f + 32 * t) (show k + 4 * f + 32 * t < 2 ^ 8 by omega) d
  rw [Nat.shiftLeft_eq] at h
  rw [Nat.or_comm, ← h]
  congr 1
  omega
/-- a message as it should be: its kind, its way, how far -/
def MV (p : RW) (i k f t d : Nat) : Prop := k < 3 ∧ f < 7 ∧ t < 7 ∧ d ≤ 9999 ∧ p (154 + 4 * i) = nI k ∧ p (154 + 4 * i + 1) = nI f ∧ p (154 + 4 * i + 2) = nI t ∧ p (154 + 4 * i + 3) = nI d
theorem MV.pk {p : RW} {i k f t d : Nat} (h : MV p i k f t d) : pk p i = nI (k + 4 * f + 32 * t + 256 * d) := by
  obtain ⟨h1, h2, h3, h4, e1, e2, e3, e4⟩ := h
  unfold Jvm.Pilot.CDiffusingRoutesLaw_law_r4474_45e1b3.pk
  rw [e1, e2, e3, e4]
  exact pkm_eq h1 h2 h3 h4
theorem e_kindOf (dd k f t d : Nat) (hk : k < 3) (hf : f < 7) (ht : t < 7) (hd : d ≤ 9999) (h : MH) (Q : RT) : callD (dd + 1) 18 [.int (nI (k + 4 * f + 32 * t + 256 * d))] h Q = Q (some (.int (nI k))) h := by
  rw [E_Ne_kindOf]
  simp only [U_Ne_kindOf (cm _), SA, SB, SG, SV]
  rw [pk_andN (by omega) 2 (by decide), show (k + 4 * f + 32 * t + 256 * d) % 2 ^ 2 = k by omega]
theorem e_fromOf (dd k f t d : Nat) (hk : k < 3) (hf : f < 7) (ht : t < 7) (hd : d ≤ 9999) (h : MH) (Q : RT) : callD (dd + 1) 19 [.int (nI (k + 4 * f + 32 * t + 256 * d))] h Q = Q (some (.int (nI f))) h := by
  rw [E_Ne_fromOf]
  simp only [U_Ne_fromOf (cm _), SA, SB, SG, SV]
  rw [pk_shrN (by omega) (nI 2 &&& 31) 2 (by decide), pk_andN (by omega) 3 (by decide), show (k + 4 * f + 32 * t + 256 * d) / 2 ^ 2 % 2 ^ 3 = f by omega]
theorem e_toOf (dd k f t d : Nat) (hk : k < 3) (hf : f < 7) (ht : t < 7) (hd : d ≤ 9999) (h : MH) (Q : RT) : callD (dd + 1) 20 [.int (nI (k + 4 * f + 32 * t + 256 * d))] h Q = Q (some (.int (nI t))) h := by
  rw [E_Ne_toOf]
  simp only [U_Ne_toOf (cm _), SA, SB, SG, SV]
  rw [pk_shrN (by omega) (nI 5 &&& 31) 5 (by decide), pk_andN (by omega) 3 (by decide), show (k + 4 * f + 32 * t + 256 * d) / 2 ^ 5 % 2 ^ 3 = t by omega]
theorem e_distanceOf (dd k f t d : Nat) (hk : k < 3) (hf : f < 7) (ht : t < 7) (hd : d ≤ 9999) (h : MH) (Q : RT) : callD (dd + 1) 21 [.int (nI (k + 4 * f + 32 * t + 256 * d))] h Q = Q (some (.int (nI d))) h := by
  rw [E_Ne_distanceOf]
  simp only [U_Ne_distanceOf (cm _), SA, SB, SG, SV]
  rw [pk_shrN (by omega) (nI 8 &&& 31) 8 (by decide), show (k + 4 * f + 32 * t + 256 * d) / 2 ^ 8 = d by omega]
/-! ===== the time is looked at by none of these ===== -/
theorem b5 {p : RW} {v : Int32} {r : Nat} : (∀ o, o < 7 → gC (up1 p 5 v) r o = gC p r o ∧ gT (up1 p 5 v) r o = gT p r o) := fun o ho => ⟨gC_up (by omega), gT_up (by omega)⟩
theorem gR_5 {p : RW} {v : Int32} {r j : Nat} : gR (up1 p 5 v) r j = gR p r j := gR_up (by omega)
theorem mNb_5 {p : RW} {v : Int32} {r : Nat} : mNb (up1 p 5 v) r = mNb p r := mNb_c (fun o ho => (b5 o ho).1)
theorem mBy_5 {p : RW} {v : Int32} {r o : Nat} (ho : o < 7) : mBy (up1 p 5 v) r o = mBy p r o := mBy_c (b5 o ho).1 (b5 o ho).2
theorem mLeast_5 {p : RW} {v : Int32} {r : Nat} : mLeast (up1 p 5 v) r = mLeast p r := mLeast_c b5
theorem mBest_5 {p : RW} {v : Int32} {r : Nat} : mBest (up1 p 5 v) r = mBest p r := mBest_c b5 gR_5
theorem mLow_5 {p : RW} {v w : Int32} {r : Nat} : mLow (up1 p 5 v) r w = mLow p r w := mLow_c b5
theorem mSall_5 {p : RW} {k v : Int32} {r : Nat} {set : Int32} : mSendAll (up1 p 5 v) k r set = up1 (mSendAll p k r set) 5 v := mSendAll_up (by omega) (by omega) (by omega)
theorem mTake_5 {p : RW} {v : Int32} {r o : Nat} (ho : o < 7) : mTake (up1 p 5 v) r o = up1 (mTake p r o) 5 v := by
  unfold mTake
  rw [mBy_5 ho, gR_5]
  simp (disch := omega) only [up1_c]
theorem mTail_5 {p : RW} {v had : Int32} {r : Nat} : mTail (up1 p 5 v) r had = up1 (mTail p r had) 5 v := by
  unfold mTail
  dsimp only
  rw [gR_5, show up1 (up1 p 5 v) (105 + 7 * r + 5) (nI 0) = up1 (up1 p (105 + 7 * r + 5) (nI 0)) 5 v from (up1_c _ _ _ (by omega)).symm, mSall_5, gR_5, mNb_5, mSall_5]
  split <;> rfl
theorem mEnd0_5 {p : RW} {v : Int32} {r : Nat} : mEnd0 (up1 p 5 v) r = up1 (mEnd0 p r) 5 v := by
  unfold mEnd0
  rw [mLeast_5, mLow_5]
  simp (disch := omega) only [up1_c]
theorem mAct1_5 {p : RW} {v ow : Int32} {r : Nat} (hs : SU (gR p r 2)) : mAct1 (up1 p 5 v) r ow = up1 (mAct1 p r ow) 5 v := by
  unfold mAct1
  rw [gR_5]
  have : (if gR p r 2 = -1 then nI 9999 else mBy (up1 p 5 v) r (gR p r 2).toNatClampNeg) = (if gR p r 2 = -1 then nI 9999 else mBy p r (gR p r 2).toNatClampNeg) := by
    rcases hs with e | ⟨o, ho, e⟩
    · rw [if_pos e, if_pos e]
    · rw [e, nI_clamp (by omega), mBy_5 ho]
  rw [this]
  simp (disch := omega) only [up1_c]
theorem mAct2_5 {p : RW} {v ow : Int32} {r : Nat} (hs : SU (gR p r 2)) : mAct2 (up1 p 5 v) r ow = up1 (mAct2 p r ow) 5 v := by
  unfold mAct2
  dsimp only
  rw [mAct1_5 hs, mNb_5, show up1 (up1 (mAct1 p r ow) 5 v) (105 + 7 * r + 4) (mNb (mAct1 p r ow) r) = up1 (up1 (mAct1 p r ow) (105 + 7 * r + 4) (mNb (mAct1 p r ow) r)) 5 v from (up1_c _ _ _ (by omega)).symm, mSall_5]
theorem up3_5 {p : RW} {v x : Int32} {k : Nat} (h : 5 < k) : up1 (up1 p 5 v) k x = up1 (up1 p k x) 5 v := (up1_c _ _ _ h).symm
theorem mGo_5 {p : RW} {v ow : Int32} {r : Nat} (hs : SU (gR p r 2)) : mGo (up1 p 5 v) r ow = up1 (mGo p r ow) 5 v := by
  unfold mGo
  dsimp only
  rw [mAct2_5 hs, gR_5, gR_5, up3_5 (by omega), mEnd0_5, mTail_5]
  split <;> rfl
theorem mEnds_5 {p : RW} {v : Int32} {r : Nat} (hs : SU (gR p r 2)) : mEnds (up1 p 5 v) r = up1 (mEnds p r) 5 v := by
  unfold mEnds
  dsimp only
  rw [gR_5, gR_5, gR_5, up3_5 (by omega), mBest_5, mEnd0_5, mTail_5, mGo_5 (by rw [gR_up (by omega)]; exact hs)]
  rcases mBest_or (up1 p (105 + 7 * r + 3) (nI 0)) r with e | ⟨o, ho, e⟩
  · rw [if_pos e, if_pos e]; split <;> rfl
  · rw [e, nI_clamp (by omega), mTake_5 ho, up3_5 (by omega), mTail_5]
    split
    · rfl
    · split <;> rfl
theorem mDecide_5 {p : RW} {v ask : Int32} {r : Nat} (hs : SU (gR p r 2)) : mDecide (up1 p 5 v) r ask = up1 (mDecide p r ask) 5 v := by
  unfold mDecide
  dsimp only
  rw [mBest_5, gR_5, mLeast_5, mGo_5 hs, up3_5 (by omega), mSall_5]
  rcases mBest_or p r with e | ⟨o, ho, e⟩
  · rw [if_pos e, if_pos e]; split <;> rfl
  · rw [e, nI_clamp (by omega), mTake_5 ho, mSall_5, gR_5, mNb_5, mSall_5, if_neg (show ¬ nI o = -1 by rw [nI_m1 (by omega)]; exact id), if_neg (show ¬ nI o = -1 by rw [nI_m1 (by omega)]; exact id)]
    split <;> rfl
theorem mTL3_5 {p : RW} {v : Int32} {r : Nat} (hs : SU (gR p r 2)) : mTL3 (up1 p 5 v) r = up1 (mTL3 p r) 5 v := by
  unfold mTL3
  rw [gR_5, mEnds_5 hs]
  split <;> rfl
theorem mSend_5 {p : RW} {k f t v : Int32} {r : Nat} : mSend (up1 p 5 v) k f t r = up1 (mSend p k f t r) 5 v := mSend_up (by omega) (by omega) (by omega)
theorem mTA_5 {p : RW} {v : Int32} {r o k : Nat} (ho : o < 7) (hs : SU (gR p r 2)) : mTA (up1 p 5 v) r o k = up1 (mTA p r o k) 5 v := by
  unfold mTA
  rw [gR_5, gR_5, gR_5, gR_5, mBy_5 ho, up3_5 (by omega), up3_5 (by omega), up3_5 (by omega), up3_5 (by omega), mSend_5, mTL3_5 (by rw [gR_up (by omega)]; exact hs)]
  split
  · split <;> rfl
  · split
    · split <;> rfl
    · rfl
