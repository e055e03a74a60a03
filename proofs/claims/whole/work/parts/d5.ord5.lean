/-! ===== orders: the reference's sums ===== -/
def SMf (h H : MH) : Prop := (hsz H = hsz h ∧ hcc H = hcc h ∧ hcu H = hcu h ∧ SHE h H) ∧ hia H = hia h ∧ (∀ a, a ≠ 273 → hfi H a = hfi h a) ∧ (∀ k, k ≠ 38 → k ≠ 49 → hfi H 273 k = hfi h 273 k) ∧ (∀ a, a ≠ 293 → hja H a = hja h a)
theorem SMf.refl (h : MH) : SMf h h := ⟨⟨rfl, rfl, rfl, SHE.refl h⟩, rfl, fun _ _ => rfl, fun _ _ _ => rfl, fun _ _ => rfl⟩
theorem SMf.trans {a b c : MH} (x : SMf a b) (y : SMf b c) : SMf a c := ⟨⟨y.1.1.trans x.1.1, y.1.2.1.trans x.1.2.1, y.1.2.2.1.trans x.1.2.2.1, x.1.2.2.2.trans y.1.2.2.2⟩, y.2.1.trans x.2.1, fun p q => (y.2.2.1 p q).trans (x.2.2.1 p q), fun p q r => (y.2.2.2.1 p q r).trans (x.2.2.2.1 p q r), fun p q => (y.2.2.2.2 p q).trans (x.2.2.2.2 p q)⟩
theorem SMf.E {h H : MH} (m : SMf h H) {e : EV} (E : ME h 1 e) : ME H 1 e := by
  unfold ME at *
  rw [m.2.1, m.2.2.2.2 291 (by omega), m.2.2.2.2 292 (by omega)]
  exact E
theorem SMf_fin {h H2 : MH} (h20 : hfi h 273 20 = nI 0) (m : MJ (sFI h 273 (up1 (hfi h 273) 20 (nI 1))) H2) (v : Int32) : SMf h (sFI H2 273 (up1 (up1 (hfi H2 273) 20 (nI 0)) 49 v)) ∧ hfi (sFI H2 273 (up1 (up1 (hfi H2 273) 20 (nI 0)) 49 v)) 273 49 = v := by
  obtain ⟨⟨m1, m2, m3, m4, m5, m6, m7, m8⟩, m9, -, m11⟩ := m
  refine ⟨⟨⟨m1, m2, m3, ⟨m4, m5, m6, m8⟩⟩, m7, fun a ha => funext fun k => ?_, fun k k1 k2 => ?_, fun a ha => m11 a ha⟩, by rw [hfi_s, up1_s]⟩
  · rw [hfi_nn _ _ ha, m9 a k (Or.inl ha), hfi_nn _ _ ha]
  · rw [hfi_s, up1_n _ _ k2]
    by_cases c : k = 20
    · subst c; rw [up1_s, h20]
    · rw [up1_n _ _ c, m9 273 k (Or.inr k1), hfi_s, up1_n _ _ c]
def okO (o : Option VAL) (e : EV) : Bool := match o with
  | none => true
  | some v => (v e).isSome
def ofN (off : Nat) (b : Bool) : Nat := if off = 0 ∧ b = true then 0 else 1
theorem ofN_le (off : Nat) (b : Bool) : ofN off b ≤ 1 := by unfold ofN; split <;> omega
theorem m_sumOf (d b off nc s0 s1 : Nat) (hb : b ≤ 118) (hoff : off ≤ 1) (hnc : nc ≤ 400) {h : MH} (hM : MoS h) (h20 : hfi h 273 20 = nI 0) (h49 : hfi h 273 49 = nI off) {e : EV} (he : EOK e) (hE : ME h 1 e) {cf : CFt} (cv : CV 1 cf nc) (hc : ∀ i, i < nc → hia h 284 i = nI (cf i).1 ∧ hia h 285 i = nI (cf i).2) (g0 : hia h 298 b = nI s0) (g1 : hia h 298 (b + 1) = nI s1) (l0 : s0 ≤ nc) (l1 : s1 ≤ nc) (o : Option VAL) (on : o = none → s0 = s1) (os : ∀ v, o = some v → Seg (lM 1 cf) s0 s1 20 v) (Q : RT) (K : ∀ H w, SMf h H → hfi H 273 49 = nI (ofN off (okO o e)) → (off = 0 → ∀ v x, o = some v → v e = some x → w = iI x) → Q (some (.int w)) H) : callD (d + 3) 238 [.ref 273, .int (nI b)] h Q := by
  have k8 := hM.1
  have a298 := hM.a298
  rw [E_Mo_sumOf]
  rcases (show off = 0 ∨ off = 1 by omega) with rfl | rfl
  · cases o with
    | none =>
      have eq := on rfl
      subst eq
      have Y := K h (-1) (SMf.refl h) h49 (fun _ v x z => by cases z)
      simp (disch := omega) only [U_Mo_sumOf (cm _), SA, SB, SC1, SC2, SG, SK, SV, k8, a298, h49, g0, g1, nI_add, nI_clamp, in_eq, Nat.reduceLeDiff, true_or, or_true, true_implies, not_true_eq_false, not_false_eq_true, false_implies, true_and, and_true]
      exact Y
    | some v =>
      have S := os v rfl
      have lt := S.1
      have ne : ¬ nI s0 = nI s1 := by rw [eqI (by omega) (by omega)]; omega
      have M1 : MoS (sFI h 273 (up1 (hfi h 273) 20 (nI 1))) := (she_fi h 273 _).1.2.2.2.M hM
      have ho1 : hfi (sFI h 273 (up1 (hfi h 273) 20 (nI 1))) 273 20 = nI 1 := by rw [hfi_s, up1_s]
      have E1 : ME (sFI h 273 (up1 (hfi h 273) 20 (nI 1))) 1 e := by
        unfold ME at *
        rw [(she_fi h 273 _).2, ia_fi]
        exact hE
      have C1 : MC (sFI h 273 (up1 (hfi h 273) 20 (nI 1))) 1 0 (lM 1 cf) s0 s1 := fun k k1 k2 => by
        obtain ⟨c1, c2, c3⟩ := cv k (by omega)
        obtain ⟨e1, e2⟩ := hc k (by omega)
        exact ⟨(cf k).1, (cf k).2, c1, c2, c3, ⟨by omega, Or.inl ⟨rfl, by rw [ia_fi]; exact e1, by rw [ia_fi]; exact e2⟩⟩, rfl⟩
      simp (disch := omega) only [U_Mo_sumOf (cm _), SA, SB, SC1, SC2, SG, SK, SV, k8, a298, h49, g0, g1, ne, nI_add, nI_clamp, in_eq, Nat.reduceLeDiff, true_or, or_true, true_implies, not_true_eq_false, not_false_eq_true, false_implies, true_and, and_true]
      have FF := fun H2 m v => SMf_fin (H2 := H2) h20 m v
      generalize sFI h 273 (up1 (hfi h 273) 20 (nI 1)) = h1 at *
      refine m_reck1 d 1 0 s0 s1 20 (Or.inr rfl) M1 ho1 (fun z => absurd z (by decide)) (by omega) (by omega) he S (by omega) C1 E1 _ (fun hv H2 m hb => ?_) (fun x hv H2 m hb hx => ?_)
      · have k82 : hkd H2 273 = 8 := by rw [m.1.2.2.2.1]; exact M1.1
        obtain ⟨F1, F2⟩ := FF H2 m (nI 1)
        have Y := K _ ((hfj H2 273 39).toInt32) F1 (by rw [F2]; show nI 1 = nI (ofN 0 (v e).isSome); rw [hv]; rfl) (fun _ v' x z z2 => by injection z with z; subst z; rw [hv] at z2; cases z2)
        simp (disch := omega) only [U_Mo_sumOf (cm _), SA, SB, SC1, SC2, SG, SK, SV, k82, hb, up1_s, up1_n, true_or, or_true, true_implies, not_true_eq_false, not_false_eq_true, false_implies, true_and, and_true]
        exact Y
      · have k82 : hkd H2 273 = 8 := by rw [m.1.2.2.2.1]; exact M1.1
        obtain ⟨F1, F2⟩ := FF H2 m (nI 0)
        have Y := K _ (iI x) F1 (by rw [F2]; show nI 0 = nI (ofN 0 (v e).isSome); rw [hv]; rfl) (fun _ v' y z z2 => by injection z with z; subst z; rw [hv] at z2; injection z2 with z2; rw [z2])
        simp (disch := omega) only [U_Mo_sumOf (cm _), SA, SB, SC1, SC2, SG, SK, SV, k82, hb, hx, jI_i, up1_s, up1_n, true_or, or_true, true_implies, not_true_eq_false, not_false_eq_true, false_implies, true_and, and_true]
        exact Y
  · have Y := K h (-1) (SMf.refl h) h49 (fun z => by cases z)
    simp (disch := omega) only [U_Mo_sumOf (cm _), SA, SB, SC1, SC2, SG, SK, SV, k8, h49, eqI, Nat.one_ne_zero, true_or, or_true, true_implies, not_true_eq_false, not_false_eq_true, false_implies, true_and, and_true]
    exact Y
/-! the sums of an order -/
def oO (c : CLA) (j : Nat) : Option VAL := if j < nSm 1 c.1 then some (c.2.2.2 j) else none
theorem okO_e (c : CLA) (e : EV) (j : Nat) : okO (oO c j) e = okJ c e j := by
  unfold oO okJ
  by_cases z : j < nSm 1 c.1
  · rw [if_pos z, decide_eq_false (by omega), Bool.false_or]; rfl
  · rw [if_neg z, decide_eq_true (by omega), Bool.true_or]; rfl
theorem oSv_w {c : CLA} {e : EV} {j : Nat} {w : Int32} (hj : j < nSm 1 c.1) (ok : okJ c e j = true) (h : ∀ v x, oO c j = some v → v e = some x → w = iI x) : w = oSv c e j := by
  unfold okJ at ok
  rw [decide_eq_false (by omega), Bool.false_or] at ok
  unfold oSv
  rw [if_pos hj]
  cases hx : c.2.2.2 j e with
  | none => rw [hx] at ok; cases ok
  | some x => exact h (c.2.2.2 j) x (by unfold oO; rw [if_pos hj]) hx
theorem t64 (x : Int32) : x.toInt64 = jI x.toInt := by
  have e := iI_j (x := x.toInt) (by have a := Int32.le_toInt x; have b := Int32.toInt_lt x; omega)
  rw [iI_toInt] at e
  exact e
def nwF (f : Nat → Int64) (p : RW) (dn : Nat) (lt : Int) : Nat → Int64 := up1 (up1 (up1 (up1 f 1 (p 5).toInt64) 2 (nI dn).toInt64) 3 (iI lt).toInt64) 4 (p 6).toInt64
def nwH (h : MH) (f : Nat → Int64) : MH := sFI (sJA h 292 f) 273 (up1 (hfi h 273) 49 (nI 0))
def MOy (h H : MH) : Prop := (hsz H = hsz h ∧ hcc H = hcc h ∧ hcu H = hcu h ∧ SHE h H) ∧ (∀ a, a ≠ 273 → hfi H a = hfi h a) ∧ (∀ k, k ≠ 8 → k ≠ 34 → k ≠ 38 → k ≠ 46 → k ≠ 47 → k ≠ 49 → hfi H 273 k = hfi h 273 k) ∧ (∀ a, a ≠ 275 → a ≠ 278 → a ≠ 279 → hia H a = hia h a) ∧ (∀ a, a ≠ 291 → a ≠ 292 → a ≠ 293 → hja H a = hja h a) ∧ (∀ x, 27984 ≤ x → x < 31482 → hia H 278 x = hia h 278 x)
theorem MOy.refl (h : MH) : MOy h h := ⟨⟨rfl, rfl, rfl, SHE.refl h⟩, fun _ _ => rfl, fun _ _ _ _ _ _ _ => rfl, fun _ _ _ _ => rfl, fun _ _ _ _ => rfl, fun _ _ _ => rfl⟩
theorem MOy.trans {a b c : MH} (x : MOy a b) (y : MOy b c) : MOy a c := ⟨⟨y.1.1.trans x.1.1, y.1.2.1.trans x.1.2.1, y.1.2.2.1.trans x.1.2.2.1, x.1.2.2.2.trans y.1.2.2.2⟩, fun p q => (y.2.1 p q).trans (x.2.1 p q), fun p q r s t u v => (y.2.2.1 p q r s t u v).trans (x.2.2.1 p q r s t u v), fun p q r s => (y.2.2.2.1 p q r s).trans (x.2.2.2.1 p q r s), fun p q r s => (y.2.2.2.2.1 p q r s).trans (x.2.2.2.2.1 p q r s), fun p q r => (y.2.2.2.2.2 p q r).trans (x.2.2.2.2.2 p q r)⟩
theorem SMf.Q {h H : MH} (x : SMf h H) : MOy h H := ⟨x.1, x.2.2.1, fun k _ _ a _ _ b => x.2.2.2.1 k a b, fun a _ _ _ => by rw [x.2.1], fun a _ _ b => x.2.2.2.2 a b, fun _ _ _ => by rw [x.2.1]⟩
theorem MaF.Q {h h3 : MH} {p q : RW} {n kd : Nat} {kept : Prop} (hn : n ≤ 16) (m : MaF h h3 p q n kd kept) : MOy h h3 := ⟨m.1, m.2.1, fun k a b c _ _ _ => m.2.2.1 k a b c, m.2.2.2.1, fun a x _ y => m.2.2.2.2.1 a x y, m.u hn⟩
theorem MQy_fi (h : MH) {k : Nat} (hk : k = 46 ∨ k = 47 ∨ k = 49) (v : Int32) : MOy h (sFI h 273 (up1 (hfi h 273) k v)) := ⟨(she_fi h 273 _).1, fun a ha => hfi_nn _ _ ha, fun j _ _ _ _ _ _ => by rw [hfi_s, up1_n _ _ (by omega)], fun a _ _ _ => by rw [ia_fi], fun a _ _ _ => by rw [(she_fi h 273 _).2], fun _ _ _ => by rw [ia_fi]⟩
theorem nw_g (h : MH) (f : Nat → Int64) : MOy h (nwH h f) ∧ hia (nwH h f) = hia h ∧ hja (nwH h f) 292 = f ∧ hfi (nwH h f) 273 = up1 (hfi h 273) 49 (nI 0) := by
  have e1 : hfi (nwH h f) 273 = up1 (hfi h 273) 49 (nI 0) := hfi_s _ 273 _
  have e2 : hja (nwH h f) = up1 (hja h) 292 f := rfl
  have e3 : hia (nwH h f) = hia h := rfl
  refine ⟨⟨⟨rfl, rfl, rfl, SHE.refl h⟩, fun a ha => hfi_nn _ _ ha, fun k _ _ _ _ _ z => by rw [e1, up1_n _ _ z], fun a _ _ _ => by rw [e3], fun a _ z _ => by rw [e2, up1_n _ _ z], fun _ _ _ => by rw [e3]⟩, e3, by rw [e2, up1_s], e1⟩
theorem ME_nw {h : MH} {f : Nat → Int64} {p : RW} {dn : Nat} {lt : Int} (hp : hia h 275 = p) (hd : dn < 2 ^ 31) (hl : -1 ≤ lt ∧ lt ≤ 10000) : ME (nwH h (nwF f p dn lt)) 1 (eO p dn lt) := by
  obtain ⟨-, e2, e3, -⟩ := nw_g h (nwF f p dn lt)
  refine ⟨fun z => absurd z (by decide), fun _ => ?_⟩
  rw [e2, e3, hp]
  unfold nwF
  refine ⟨⟨?_, ?_, ?_, ?_⟩, fun r hr => ⟨?_, ?_⟩⟩
  · rw [up1_n _ _ (by omega), up1_n _ _ (by omega), up1_n _ _ (by omega), up1_s, t64]; rfl
  · rw [up1_n _ _ (by omega), up1_n _ _ (by omega), up1_s, t64, nI_toInt (by omega)]; rfl
  · rw [up1_n _ _ (by omega), up1_s, iI_j (by omega)]; rfl
  · rw [up1_s, t64]; rfl
  · have e : eO p dn lt (9 + r) = (gR p r 0).toInt := by
      unfold eO
      rw [if_neg (by omega), if_neg (by omega), if_neg (by omega), if_neg (by omega), if_neg (by omega), if_pos (by omega), show 9 + r - 9 = r by omega]
    rw [e, iI_toInt]; rfl
  · have e : eO p dn lt (16 + r) = (gR p r 3).toInt := by
      unfold eO
      rw [if_neg (by omega), if_neg (by omega), if_neg (by omega), if_neg (by omega), if_neg (by omega), if_neg (by omega), if_pos (by omega), show 16 + r - 16 = r by omega]
    rw [e, iI_toInt]; rfl
