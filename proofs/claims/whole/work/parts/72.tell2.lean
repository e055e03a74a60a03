/-! ===== the reference: tells, rank, isBarred ===== -/
def MK (h h' : MH) : Prop := (hsz h' = hsz h ∧ hcc h' = hcc h ∧ hcu h' = hcu h ∧ hkd h' = hkd h ∧ hln h' = hln h ∧ hfr h' = hfr h ∧ hia h' = hia h ∧ hra h' = hra h) ∧ (∀ a k, (a ≠ 273 ∨ (k ≠ 34 ∧ k ≠ 38)) → hfi h' a k = hfi h a k) ∧ (∀ a k, (a ≠ 273 ∨ (k ≠ 39 ∧ k ≠ 40)) → hfj h' a k = hfj h a k) ∧ (∀ a, a ≠ 291 → a ≠ 293 → hja h' a = hja h a)
theorem MI.K {a b : MH} (x : MI a b) : MK a b := ⟨x.1, fun p q z => x.2.1 p q (by omega), x.2.2.1, fun p _ z => x.2.2.2 p z⟩
theorem MK.trans {a b c : MH} (x : MK a b) (y : MK b c) : MK a c := by
  obtain ⟨⟨x1, x2, x3, x4, x5, x6, x7, x8⟩, x9, x10, x11⟩ := x
  obtain ⟨⟨y1, y2, y3, y4, y5, y6, y7, y8⟩, y9, y10, y11⟩ := y
  exact ⟨⟨y1.trans x1, y2.trans x2, y3.trans x3, y4.trans x4, y5.trans x5, y6.trans x6, y7.trans x7, y8.trans x8⟩, fun p q z => (y9 p q z).trans (x9 p q z), fun p q z => (y10 p q z).trans (x10 p q z), fun p z w => (y11 p z w).trans (x11 p z w)⟩
theorem MK.refl (h : MH) : MK h h := (MI.refl h).K
theorem MK.S {h h' : MH} (m : MK h h') (s : MoS h) : MoS h' := by
  obtain ⟨⟨-, -, -, e1, e2, e3, -⟩, -⟩ := m
  unfold MoS AF at *
  rw [e1, e2, e3]
  exact s
theorem MK.l (h : MH) (x : Int32) : MK h (sFI h 273 (up1 (hfi h 273) 34 x)) := by
  refine ⟨⟨rfl, rfl, rfl, rfl, rfl, rfl, rfl, rfl⟩, fun a k q => ?_, fun _ _ _ => rfl, fun _ _ _ => rfl⟩
  show up1 (hfi h) 273 (up1 (hfi h 273) 34 x) a k = hfi h a k
  unfold up1
  split
  · next e => subst e; show (if k = 34 then x else hfi h 273 k) = _; rw [if_neg (by omega)]
  · rfl
theorem MK.set (h : MH) (f : Nat → Int64) : MK h (sJA h 291 f) := ⟨⟨rfl, rfl, rfl, rfl, rfl, rfl, rfl, rfl⟩, fun _ _ _ => rfl, fun _ _ _ => rfl, fun a q _ => up1_n (hja h) f q⟩
def tlI (L : LWS) (e : EV) (hd : Nat) (wo : Int64) (c : Nat) : Int64 := if hd = 0 then (match jTell L e c with
  | some x => jI x
  | none => wo) else (if jBar L e c = true then lN 1 else wo)
theorem tlI_s {L : LWS} {e : EV} {hd : Nat} {wo : Int64} {c : Nat} (hd1 : hd ≤ 1) (hs : L.2.1 c = hd → sob L e c = false) : tlI L e hd wo (c + 1) = tlI L e hd wo c := by
  unfold tlI
  rcases (show hd = 0 ∨ hd = 1 by omega) with rfl | rfl
  · rw [if_pos rfl, if_pos rfl]
    have : jTell L e (c + 1) = jTell L e c := by
      show (if L.2.1 c = 0 ∧ holB (L.2.2.1 c) e = true then _ else _) = _
      by_cases c0 : L.2.1 c = 0 ∧ holB (L.2.2.1 c) e = true
      · rw [if_pos c0]
        have := hs c0.1
        unfold sob at this
        rw [c0.2, c0.1] at this
        cases hv : L.2.2.2 c e with
        | none => rfl
        | some x => rw [hv] at this; cases this
      · rw [if_neg c0]
    rw [this]
  · show (if jBar L e (c + 1) = true then lN 1 else wo) = (if jBar L e c = true then lN 1 else wo)
    have : jBar L e (c + 1) = jBar L e c := by
      show (jBar L e c || (decide (L.2.1 c = 1) && holB (L.2.2.1 c) e)) = _
      by_cases c1 : L.2.1 c = 1
      · have := hs c1
        unfold sob at this
        rw [decide_eq_false (show ¬ L.2.1 c = 0 by omega)] at this
        simp only [Bool.not_false, Bool.true_or, Bool.and_true] at this
        rw [this, Bool.and_false, Bool.or_false]
      · rw [decide_eq_false c1, Bool.false_and, Bool.or_false]
    rw [this]
theorem tlI_0 {L : LWS} {e : EV} {wo : Int64} {c : Nat} (h0 : L.2.1 c = 0) (hs : sob L e c = true) : ∃ x, L.2.2.2 c e = some x ∧ tlI L e 0 wo (c + 1) = jI x := by
  unfold sob at hs
  rw [h0] at hs
  cases hv : L.2.2.2 c e with
  | none => rw [hv] at hs; simp at hs
  | some x =>
    rw [hv] at hs
    have hh : holB (L.2.2.1 c) e = true := by simpa using hs
    refine ⟨x, rfl, ?_⟩
    unfold tlI
    rw [if_pos rfl]
    have : jTell L e (c + 1) = some x := by
      show (if L.2.1 c = 0 ∧ holB (L.2.2.1 c) e = true then _ else _) = _
      rw [if_pos ⟨h0, hh⟩, hv]
    rw [this]
theorem tlI_1 {L : LWS} {e : EV} {wo : Int64} {c : Nat} (h0 : L.2.1 c = 1) (hs : sob L e c = true) : tlI L e 1 wo (c + 1) = lN 1 := by
  unfold sob at hs
  rw [decide_eq_false (show ¬ L.2.1 c = 0 by omega)] at hs
  have hh : holB (L.2.2.1 c) e = true := by simpa using hs
  unfold tlI
  rw [if_neg (by omega)]
  have : jBar L e (c + 1) = true := by
    show (jBar L e c || (decide (L.2.1 c = 1) && holB (L.2.2.1 c) e)) = true
    rw [hh, h0]; simp
  rw [if_pos this]
set_option maxHeartbeats 2000000 in
theorem m_l_tells (d lb hd nc : Nat) (hd1 : hd ≤ 1) {L : LWS} {l : INS} {h : MH} (hM : MoS h) (ho : hfi h 273 20 = nI 0) (hl : hfi h 273 34 = nI lb) (hlb : lb ≤ 6522) (hnc : nc ≤ 400) (hn : L.1 ≤ 12) (hp : hia h 275 (lb + 1) = nI L.1) (hC : MCr (hia h 275) lb l nc) (hT : ∀ i, i < L.1 → TXc (hia h 275) lb l nc L i) {e : EV} (he : EOK e) (hE : ME h 0 e) (wo : Int64) (Q : RT) (lm : Nat × Nat) (kk : ∀ h', MI h h' → Q (some (.long (tlI L e hd wo L.1))) h') : ∀ (m c : Nat) (w : Option Value) (H : MH), MI h H → c + m = L.1 → WP cd_Mo_tells (callD (d + 3)) Q lm 36 [] [some (.ref 273), some (.int (nI hd)), some (.long wo), none, some (.long (tlI L e hd wo c)), none, some (.int (nI c)), w] H
  | 0, c, w, H, m, hc => by
    obtain rfl : c = L.1 := by omega
    obtain ⟨m1, m2, m3, m4⟩ := (m.S hM).row
    have e34 := (m.2.1 273 34 (by omega)).trans hl
    have ep : hia H 275 (lb + 1) = nI L.1 := by rw [m.1.2.2.2.2.2.2.1]; exact hp
    rw [U_Mo_tells_36 (cm _)]
    simp (disch := omega) only [U_Mo_tells (cm _), SA, SB, SG, SV, m1, m2, m3, m4, e34, ep, leI, Nat.le_refl, nI_add, nI_clamp, in_eq, true_implies, not_true_eq_false, not_false_eq_true, false_implies, true_and, and_true]
    exact kk H m
  | n + 1, c, w, H, m, hc => by
    have ih := fun w H m => m_l_tells d lb hd nc hd1 hM ho hl hlb hnc hn hp hC hT he hE wo Q lm kk n (c + 1) w H m (by omega)
    have hMH := m.S hM
    obtain ⟨m1, m2, m3, m4⟩ := hMH.row
    have eh : hia H = hia h := m.1.2.2.2.2.2.2.1
    have e34 := (m.2.1 273 34 (by omega)).trans hl
    have e20 := (m.2.1 273 20 (by omega)).trans ho
    have ep : hia H 275 (lb + 1) = nI L.1 := by rw [eh]; exact hp
    have nc1 : ¬ L.1 ≤ c := by omega
    have hTc := hT c (by omega)
    obtain ⟨k1, k2, -⟩ := hTc
    have k2' : hia H 275 (lb + 2 + 8 * c) = nI (L.2.1 c) := by rw [eh]; exact k2
    rw [U_Mo_tells_36 (cm _)]
    by_cases ck : L.2.1 c = hd
    · rw [ck] at k2'
      simp (disch := omega) only [U_Mo_tells (cm _), SA, SB, SC1, SC2, SG, SV, m1, m2, m3, m4, e34, ep, k2', leI, nc1, pk_mul, nI_add, nI_clamp, in_eq, true_implies, not_true_eq_false, not_false_eq_true, false_implies, true_and, and_true]
      refine m_isSo d lb c nc (by omega) hMH e20 e34 hlb hnc (by rw [eh]; exact hC) (by rw [eh]; exact hT c (by omega)) he (m.E hE) _ (fun h' m' hx => ?_)
      have m1' : hkd h' 273 = 8 := by rw [m'.1.2.2.2.1]; exact m1
      by_cases cs : sob L e c = true
      · rw [b01_t cs]
        rcases (show hd = 0 ∨ hd = 1 by omega) with rfl | rfl
        · obtain ⟨x, x1, x2⟩ := tlI_0 (wo := wo) ck cs
          have ex := hx cs ck x x1
          have I := ih (some (.int (nI (lb + 2 + 8 * c)))) h' (m.trans m')
          rw [x2] at I
          simp (disch := omega) only [U_Mo_tells (cm _), SA, SB, SC1, SC2, SG, SV, m1', ex, eqI, Nat.one_ne_zero, nI_add, true_implies, not_true_eq_false, not_false_eq_true, false_implies, true_and, and_true]
          exact I
        · have x2 := tlI_1 (wo := wo) ck cs
          have I := ih (some (.int (nI (lb + 2 + 8 * c)))) h' (m.trans m')
          rw [x2] at I
          simp (disch := omega) only [U_Mo_tells (cm _), SA, SB, SC1, SC2, SG, SV, m1', eqI, Nat.one_ne_zero, nI_add, true_implies, not_true_eq_false, not_false_eq_true, false_implies, true_and, and_true]
          exact I
      · have I := ih (some (.int (nI (lb + 2 + 8 * c)))) h' (m.trans m')
        rw [tlI_s hd1 (fun _ => Bool.eq_false_iff.mpr cs)] at I
        rw [b01_f cs]
        simp (disch := omega) only [U_Mo_tells (cm _), SA, SB, SC1, SC2, SG, SV, m1', eqI, Nat.one_ne_zero, nI_add, true_implies, not_true_eq_false, not_false_eq_true, false_implies, true_and, and_true]
        exact I
    · have I := ih (some (.int (nI (lb + 2 + 8 * c)))) H m
      rw [tlI_s hd1 (fun z => absurd z ck)] at I
      have ck' : ¬ nI (L.2.1 c) = nI hd := by rw [eqI (by omega) (by omega)]; exact ck
      simp (disch := omega) only [U_Mo_tells (cm _), SA, SB, SC1, SC2, SG, SV, m1, m2, m3, m4, e34, ep, k2', ck', leI, nc1, pk_mul, nI_add, nI_clamp, in_eq, true_implies, not_true_eq_false, not_false_eq_true, false_implies, true_and, and_true]
      exact I
/-- the law in force, if there is one -/
def FO (p : RW) (Lo : Option LWS) : Prop := match Lo with
  | none => p 2 = -1
  | some L => ∃ f, p 2 = nI f ∧ TX p f L
def tlO (Lo : Option LWS) (e : EV) (hd : Nat) (wo : Int64) : Int64 := match Lo with
  | none => wo
  | some L => tlI L e hd wo L.1
theorem m_tells (d hd : Nat) (hd1 : hd ≤ 1) {Lo : Option LWS} {h : MH} (hM : MoS h) (ho : hfi h 273 20 = nI 0) (hF : FO (hia h 275) Lo) {e : EV} (he : EOK e) (hE : ME h 0 e) (wo : Int64) (Q : RT) (kk : ∀ h', MK h h' → Q (some (.long (tlO Lo e hd wo))) h') : callD (d + 4) 196 [.ref 273, .int (nI hd), .long wo] h Q := by
  obtain ⟨m1, m2, m3, m4⟩ := hM.row
  rw [E_Mo_tells]
  cases Lo with
  | none =>
    have h2 : hia h 275 2 = -1 := hF
    simp (disch := omega) only [U_Mo_tells (cm _), SA, SB, SC1, SC2, SG, SV, m1, m2, m3, m4, h2, nI_clamp, in_eq, true_implies, not_true_eq_false, not_false_eq_true, false_implies, true_and, and_true]
    exact kk h (MK.refl h)
  | some L =>
    obtain ⟨f, h2, f6, n1, n12, hp, l, nc, hnc, hC, hT⟩ := hF
    have h2' : ¬ nI f = -1 := by rw [nI_m1 (by omega)]; exact id
    have B := MK.l h (nI (2022 + 900 * f))
    have e34 : hfi (sFI h 273 (up1 (hfi h 273) 34 (nI (2022 + 900 * f)))) 273 34 = nI (2022 + 900 * f) := by
      show up1 (hfi h) 273 (up1 (hfi h 273) 34 (nI (2022 + 900 * f))) 273 34 = _
      rw [up1_s, up1_s]
    have t0 : tlI L e hd wo 0 = wo := by unfold tlI; split <;> rfl
    have Y := m_l_tells d (2022 + 900 * f) hd nc hd1 (h := sFI h 273 (up1 (hfi h 273) 34 (nI (2022 + 900 * f)))) (B.S hM) ((B.2.1 273 20 (by omega)).trans ho) e34 (by omega) hnc n12 hp hC hT he hE wo Q (hcc h, hcu h) (fun h' m => kk h' (B.trans m.K)) L.1 0 none _ (MI.refl _) (by omega)
    rw [t0] at Y
    simp (disch := omega) only [U_Mo_tells (cm _), SA, SB, SC1, SC2, SG, SV, m1, m2, m3, m4, h2, h2', pk_mul, nI_add, nI_clamp, in_eq, true_implies, not_true_eq_false, not_false_eq_true, false_implies, true_and, and_true]
    exact Y
def eMs (k f t d w tm md : Int) : EV := fun n => if n = 0 then k else if n = 1 then f else if n = 2 then t else if n = 3 then d else if n = 4 then w else if n = 5 then tm else if n = 6 then md else 0
def jRankO (Lo : Option LWS) (e : EV) : Nat := match Lo with
  | none => 0
  | some L => jRank L e
def jBarO (Lo : Option LWS) (e : EV) : Bool := match Lo with
  | none => false
  | some L => jBar L e L.1
theorem jRankO_le (Lo : Option LWS) (e : EV) : jRankO Lo e ≤ 99 := by
  cases Lo with
  | none => exact Nat.zero_le _
  | some L => exact clp_le _
