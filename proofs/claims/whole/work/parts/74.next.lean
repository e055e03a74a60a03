/-! ===== which message is delivered next ===== -/
theorem lN_t {a : Nat} (h : a < 2 ^ 63) : (lN a).toInt = (a : Int) := by rw [← jI_n]; exact jI_t (by omega)
theorem lN_shr {a d : Nat} {D : Int64} (hD : (D.toBitVec.smod 64).toNat = d) (h : a < 2 ^ 62) : lN a >>> D = lN (a / 2 ^ d) := by
  have hd : a / 2 ^ d ≤ a := Nat.div_le_self _ _
  apply Int64.toInt_inj.mp
  have e : (lN a >>> D).toInt = (lN a).toInt >>> d := by
    rw [← hD]
    exact BitVec.toInt_sshiftRight ..
  rw [e, Int.shiftRight_eq_div_pow, lN_t (by omega), lN_t (by omega)]
  rfl
theorem lN_or (a b : Nat) : lN a ||| lN b = lN (a ||| b) := by
  unfold lN
  apply Int64.toBitVec.inj
  show BitVec.ofNat 64 a ||| BitVec.ofNat 64 b = BitVec.ofNat 64 (a ||| b)
  exact (BitVec.ofNat_or).symm
theorem lN_and (a b : Nat) : lN a &&& lN b = lN (a &&& b) := by
  unfold lN
  apply Int64.toBitVec.inj
  show BitVec.ofNat 64 a &&& BitVec.ofNat 64 b = BitVec.ofNat 64 (a &&& b)
  exact (BitVec.ofNat_and).symm
set_option maxRecDepth 100000 in
theorem sh_w : ∀ w, w < 49 → (((nI w).toInt64 &&& 63).toBitVec.smod 64).toNat = w ∧ lN 1 <<< ((nI w).toInt64 &&& 63) = lN (2 ^ w) := by decide +kernel
theorem lN_inj {a b : Nat} (ha : a < 2 ^ 62) (hb : b < 2 ^ 62) : (lN a = lN b) = (a = b) := by
  have := jI_eq (x := (a : Int)) (y := (b : Int)) (by omega) (by omega)
  rw [jI_n, jI_n] at this
  rw [this]
  exact propext (by omega)
theorem m_bit {m w : Nat} (hm : m < 2 ^ 49) (hw : w < 49) : ((lN m >>> ((nI w).toInt64 &&& 63)) &&& lN 1 = lN 0) = (m.testBit w = false) := by
  rw [lN_shr (sh_w w hw).1 (by omega), lN_and, Nat.and_one_is_mod, lN_inj (by omega) (by omega), Nat.testBit_eq_decide_div_mod_eq]
  exact propext (by rw [decide_eq_false_iff_not]; omega)
theorem x_bit {m w : Nat} (hm : m < 2 ^ 49) (hw : w < 49) : (lN m &&& (lN 1 <<< ((nI w).toInt64 &&& 63)) = lN 0) = (m.testBit w = false) := by
  have h2 : 2 ^ w < 2 ^ 49 := Nat.pow_lt_pow_right (by omega) hw
  have h3 : m &&& 2 ^ w < 2 ^ 49 := Nat.lt_of_le_of_lt Nat.and_le_left hm
  rw [(sh_w w hw).2, lN_and, lN_inj (by omega) (by omega)]
  refine propext ⟨fun q => ?_, fun q => ?_⟩
  · have z : (m &&& 2 ^ w).testBit w = false := by rw [q]; exact Nat.zero_testBit _
    rw [Nat.testBit_and, Nat.testBit_two_pow_self, Bool.and_true] at z
    exact z
  · apply Nat.eq_of_testBit_eq
    intro i
    rw [Nat.testBit_and, Nat.zero_testBit, Nat.testBit_two_pow]
    by_cases e : w = i
    · subst e; rw [q]; rfl
    · rw [decide_eq_false e, Bool.and_false]
theorem or_lt {m w : Nat} (hm : m < 2 ^ 49) (hw : w < 49) : m ||| 2 ^ w < 2 ^ 49 := Nat.or_lt_two_pow hm (Nat.pow_lt_pow_right (by omega) hw)
def nxS (R W : Nat → Nat) (st : Nat × Int32 × Nat) (i : Nat) : Nat × Int32 × Nat := if st.1.testBit (W i) = false then (st.1 ||| 2 ^ W i, if R i < st.2.2 then nI i else st.2.1, if R i < st.2.2 then R i else st.2.2) else st
def eP (p : RW) (i : Nat) : EV := eMs (p (154 + 4 * i)).toInt (p (154 + 4 * i + 1)).toInt (p (154 + 4 * i + 2)).toInt (p (154 + 4 * i + 3)).toInt (p 6).toInt (p 5).toInt (p 4).toInt
def wy (p : RW) (i : Nat) : Nat := 7 * (p (154 + 4 * i + 1)).toNatClampNeg + (p (154 + 4 * i + 2)).toNatClampNeg
def jNxI (Lo : Option LWS) (p : RW) : Int32 := (itr (nxS (fun i => jRankO Lo (eP p i)) (wy p)) 0 (ql p) (0, -1, 100)).2.1
def jNx (Lo : Option LWS) (p : RW) : Nat := (jNxI Lo p).toNatClampNeg
theorem nxS_0 {R W : Nat → Nat} : ∀ (m i : Nat) (st : Nat × Int32 × Nat), st.2.2 = 0 → (itr (nxS R W) i m st).2 = st.2
  | 0, _, _, _ => rfl
  | m + 1, i, st, h => by
    rw [itr_s]
    have e : (nxS R W st i).2 = st.2 := by
      unfold nxS
      split
      · rw [h, if_neg (by omega), if_neg (by omega)]
        show (st.2.1, 0) = st.2
        rw [← h]
      · rfl
    rw [nxS_0 m (i + 1) _ (by rw [e]; exact h), e]
theorem nxS_its {R W : Nat → Nat} : ∀ (m i : Nat) (st : Nat × Int32 × Nat), (∃ j, j < i ∧ st.2.1 = nI j) → ∃ j, j < i + m ∧ (itr (nxS R W) i m st).2.1 = nI j
  | 0, i, st, h => h
  | m + 1, i, st, ⟨j, h1, h2⟩ => by
    rw [itr_s, show i + (m + 1) = i + 1 + m by omega]
    refine nxS_its m (i + 1) _ ?_
    unfold nxS
    split
    · split
      · exact ⟨i, by omega, rfl⟩
      · exact ⟨j, by omega, h2⟩
    · exact ⟨j, by omega, h2⟩
theorem nx_first {R W : Nat → Nat} (hR : ∀ i, R i ≤ 99) (x : Int32) : nxS R W (0, x, 100) 0 = (2 ^ W 0, nI 0, R 0) := by
  unfold nxS
  have h := hR 0
  rw [if_pos (Nat.zero_testBit _), if_pos (by show R 0 < 100; omega), if_pos (by show R 0 < 100; omega)]
  simp
theorem jNx_ok (Lo : Option LWS) {p : RW} (hq : 0 < ql p) (hQ : ql p < 1000) : jNxI Lo p = nI (jNx Lo p) ∧ jNx Lo p < ql p := by
  have hR : ∀ i, (fun i => jRankO Lo (eP p i)) i ≤ 99 := fun i => jRankO_le Lo _
  have : ∃ j, j < ql p ∧ jNxI Lo p = nI j := by
    unfold jNxI
    obtain ⟨n, hn⟩ : ∃ n, ql p = n + 1 := ⟨ql p - 1, by omega⟩
    rw [hn, itr_s, nx_first hR]
    obtain ⟨j, j1, j2⟩ := nxS_its (R := fun i => jRankO Lo (eP p i)) (W := wy p) n 1 (2 ^ wy p 0, nI 0, jRankO Lo (eP p 0)) ⟨0, by omega, rfl⟩
    exact ⟨j, by omega, j2⟩
  obtain ⟨j, j1, j2⟩ := this
  unfold jNx
  rw [j2, nI_clamp (by omega)]
  exact ⟨rfl, j1⟩
theorem eP_v {p : RW} {i k f t d w tm md : Nat} (hm : MV p i k f t d) (hw : p 6 = nI w) (ht : p 5 = nI tm) (hmd : p 4 = nI md) (w1 : w ≤ 1000) (t1 : tm ≤ 999) (m1 : md ≤ 9) : eP p i = eMs k f t d w tm md ∧ wy p i = 7 * f + t := by
  obtain ⟨q1, q2, q3, q4, e1, e2, e3, e4⟩ := hm
  unfold eP wy
  rw [e1, e2, e3, e4, hw, ht, hmd, nI_toInt (by omega), nI_toInt (by omega), nI_toInt (by omega), nI_toInt (by omega), nI_toInt (by omega), nI_toInt (by omega), nI_toInt (by omega), nI_clamp (by omega), nI_clamp (by omega)]
  exact ⟨rfl, rfl⟩
set_option maxHeartbeats 4000000 in
theorem m_l_next (d w tm md : Nat) {Lo : Option LWS} {p : RW} {h : MH} (hM : MoS h) (hp : hia h 275 = p) (ho : hfi h 273 20 = nI 0) (hF : FO p Lo) (hv : MVs p) (hw : p 6 = nI w) (hwq : w ≤ 460) (ht : p 5 = nI tm) (hmd : p 4 = nI md) (t1 : tm ≤ 999) (md1 : md ≤ 9) (Q : RT) (lm : Nat × Nat) : ∀ (n i m : Nat) (its : Int32) (le : Nat) (w6 w7 : Option Value) (H : MH), MK h H → i + n = w → m < 2 ^ 49 → le ≤ 100 → (∀ h', MK h h' → Q (some (.int (itr (nxS (fun i => jRankO Lo (eP p i)) (wy p)) i n (m, its, le)).2.1)) h') → WP cd_Mo_nextMessage (callD (d + 6)) Q lm 11 [] [some (.ref 273), some (.long (lN m)), none, some (.int its), some (.int (nI le)), some (.int (nI i)), w6, w7] H
  | 0, i, m, its, le, w6, w7, H, mK, hi, hm, hl, kk => by
    obtain ⟨m1, m2, m3, m4⟩ := (mK.S hM).row
    have e6 : hia H 275 6 = nI w := by rw [mK.1.2.2.2.2.2.2.1, hp]; exact hw
    rw [U_Mo_nextMessage_11 (cm _)]
    simp (disch := omega) only [U_Mo_nextMessage (cm _), SA, SB, SG, SV, m1, m2, m3, m4, e6, leI, show w ≤ i by omega, nI_clamp, in_eq, true_implies, not_true_eq_false, not_false_eq_true, false_implies, true_and, and_true]
    exact kk H mK
  | n + 1, i, m, its, le, w6, w7, H, mK, hi, hm, hl, kk => by
    have hMH := mK.S hM
    obtain ⟨m1, m2, m3, m4⟩ := hMH.row
    have eh : hia H 275 = p := by rw [mK.1.2.2.2.2.2.2.1]; exact hp
    have e6 : hia H 275 6 = nI w := by rw [eh]; exact hw
    have hql : ql p = w := ql_of hw (by omega)
    obtain ⟨k, f, t, dd, mv⟩ := hv i (by omega)
    obtain ⟨v1, v2⟩ := eP_v mv hw ht hmd (by omega) t1 md1
    have mv' : MV (hia H 275) i k f t dd := by rw [eh]; exact mv
    obtain ⟨q1, q2, q3, q4, e1, e2, e3, e4⟩ := mv'
    have hwy : 7 * f + t < 49 := by omega
    have b1 := m_bit hm hwy
    rw [itr_s] at kk
    rw [U_Mo_nextMessage_11 (cm _)]
    by_cases c : m.testBit (7 * f + t) = false
    · have sx : nxS (fun i => jRankO Lo (eP p i)) (wy p) (m, its, le) i = (m ||| 2 ^ (7 * f + t), if jRankO Lo (eMs k f t dd w tm md) < le then nI i else its, if jRankO Lo (eMs k f t dd w tm md) < le then jRankO Lo (eMs k f t dd w tm md) else le) := by
        unfold nxS
        rw [v2]
        simp only [v1]
        rw [if_pos c]
      rw [sx] at kk
      have hr := jRankO_le Lo (eMs k f t dd w tm md)
      have e20 := (mK.2.1 273 20 (by omega)).trans ho
      simp (disch := omega) only [↓SL, LC, U_Mo_nextMessage (cm _), SA, SB, SC1, SC2, SG, SV, m1, m2, m3, m4, e6, e2, e3, e_messageAt, leI, show ¬ w ≤ i by omega, pk_mul, nI_add, nI_clamp, in_eq, b1, c, (sh_w _ hwy).2, lN_or, true_implies, not_true_eq_false, not_false_eq_true, false_implies, true_and, and_true]
      refine m_rank d i k f t dd w tm md hMH e20 (by rw [eh]; exact hF) ⟨q1, q2, q3, q4, e1, e2, e3, e4⟩ (by omega) e6 (by rw [eh]; exact ht) (by rw [eh]; exact hmd) (by omega) t1 md1 _ (fun h' mK' => ?_)
      by_cases cl : jRankO Lo (eMs k f t dd w tm md) < le
      · rw [if_pos cl, if_pos cl] at kk
        have I := fun w6 w7 => m_l_next d w tm md hM hp ho hF hv hw hwq ht hmd t1 md1 Q lm n (i + 1) _ _ _ w6 w7 h' (mK.trans mK') (by omega) (or_lt hm hwy) (by omega) kk
        simp (disch := omega) only [U_Mo_nextMessage (cm _), SA, SB, SC1, SC2, SG, SV, leI, show ¬ le ≤ jRankO Lo (eMs k f t dd w tm md) by omega, nI_add, true_implies, not_true_eq_false, not_false_eq_true, false_implies, true_and, and_true]
        exact I _ _
      · rw [if_neg cl, if_neg cl] at kk
        have I := fun w6 w7 => m_l_next d w tm md hM hp ho hF hv hw hwq ht hmd t1 md1 Q lm n (i + 1) _ _ _ w6 w7 h' (mK.trans mK') (by omega) (or_lt hm hwy) hl kk
        simp (disch := omega) only [U_Mo_nextMessage (cm _), SA, SB, SC1, SC2, SG, SV, leI, show le ≤ jRankO Lo (eMs k f t dd w tm md) by omega, nI_add, true_implies, not_true_eq_false, not_false_eq_true, false_implies, true_and, and_true]
        exact I _ _
    · have sx : nxS (fun i => jRankO Lo (eP p i)) (wy p) (m, its, le) i = (m, its, le) := by
        unfold nxS
        rw [v2, if_neg c]
      rw [sx] at kk
      have I := fun w6 w7 => m_l_next d w tm md hM hp ho hF hv hw hwq ht hmd t1 md1 Q lm n (i + 1) m its le w6 w7 H mK (by omega) hm hl kk
      simp (disch := omega) only [↓SL, LC, U_Mo_nextMessage (cm _), SA, SB, SC1, SC2, SG, SV, m1, m2, m3, m4, e6, e2, e3, e_messageAt, leI, show ¬ w ≤ i by omega, pk_mul, nI_add, nI_clamp, in_eq, b1, c, Bool.true_eq_false, true_implies, not_true_eq_false, not_false_eq_true, false_implies, true_and, and_true]
      exact I _ _
theorem m_next (d w tm md : Nat) {Lo : Option LWS} {p : RW} {h : MH} (hM : MoS h) (hp : hia h 275 = p) (ho : hfi h 273 20 = nI 0) (hF : FO p Lo) (hv : MVs p) (hw : p 6 = nI w) (hwq : w ≤ 460) (ht : p 5 = nI tm) (hmd : p 4 = nI md) (t1 : tm ≤ 999) (md1 : md ≤ 9) (Q : RT) (kk : ∀ h', MK h h' → Q (some (.int (jNxI Lo p))) h') : callD (d + 7) 211 [.ref 273] h Q := by
  have hql : ql p = w := ql_of hw (by omega)
  rw [E_Mo_nextMessage]
  simp (disch := omega) only [U_Mo_nextMessage (cm _), SA, SB, SG, SV]
  exact m_l_next d w tm md hM hp ho hF hv hw hwq ht hmd t1 md1 Q _ w 0 0 (-1) 100 _ _ h (MK.refl h) (by omega) (by omega) (by omega) (by unfold jNxI at kk; rw [hql] at kk; exact kk)
