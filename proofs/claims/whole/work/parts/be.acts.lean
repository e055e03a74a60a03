/-! ===== what an act answers; how the reference leaves its cells ===== -/
theorem ref_val {Lo : Option LWS} {p : RW} {kd : Nat} {one other costs : Int32} (hn : ¬ aRef Lo p kd one other costs = nI 0) : aRef Lo p kd one other costs = rfV 1 ∨ aRef Lo p kd one other costs = rfV 3 := by
  have e1 : rfV 1 = -1 := by decide
  have e3 : rfV 3 = -3 := by decide
  rw [e1, e3]
  unfold aRef at hn ⊢
  split
  · next c =>
    rw [if_pos c] at hn
    split
    · exact Or.inr rfl
    · next z => rw [if_neg z] at hn; exact absurd rfl hn
  next c =>
  rw [if_neg c] at hn
  split
  · next c2 =>
    rw [if_pos c2] at hn
    split
    · next c3 =>
      rw [if_pos c3] at hn
      split
      · exact Or.inr rfl
      · next z => rw [if_neg z] at hn; exact absurd rfl hn
    · exact Or.inl rfl
  next c2 =>
  rw [if_neg c2] at hn
  split
  · next c3 =>
    rw [if_pos c3] at hn
    split
    · exact Or.inr rfl
    · next z => rw [if_neg z] at hn; exact absurd rfl hn
  · exact Or.inl rfl
theorem many_n {x : Int32} (h : M7 x) : ∃ m, m ≤ 7 ∧ mMany x = nI m := by
  obtain ⟨m, hm, rfl⟩ := h
  have : ∀ m, m < 128 → ∃ k, k ≤ 7 ∧ mMany (nI m) = nI k := by
    intro m hm
    have : ∀ m, m < 128 → mMany (nI m) = nI 0 ∨ mMany (nI m) = nI 1 ∨ mMany (nI m) = nI 2 ∨ mMany (nI m) = nI 3 ∨ mMany (nI m) = nI 4 ∨ mMany (nI m) = nI 5 ∨ mMany (nI m) = nI 6 ∨ mMany (nI m) = nI 7 := by decide +kernel
    rcases this m hm with z | z | z | z | z | z | z | z
    · exact ⟨0, by omega, z⟩
    · exact ⟨1, by omega, z⟩
    · exact ⟨2, by omega, z⟩
    · exact ⟨3, by omega, z⟩
    · exact ⟨4, by omega, z⟩
    · exact ⟨5, by omega, z⟩
    · exact ⟨6, by omega, z⟩
    · exact ⟨7, by omega, z⟩
  exact this m hm
theorem told_n {Lo : Option LWS} {p : RW} {kd : Nat} {one other costs : Int32} (hkd3 : kd < 3) (v : IV p) (h : aRef Lo p kd one other costs = nI 0) : ∃ m, m ≤ 50 ∧ aTold Lo p kd one other = nI m := by
  have hQ := v.1.2.2.2
  unfold aTold
  rcases (show kd = 0 ∨ kd = 1 ∨ kd = 2 by omega) with rfl | rfl | rfl
  · obtain ⟨a, b, c, ha, hb, hab, hc, rfl, rfl, rfl, hne⟩ := ref_0 h
    rw [if_neg (by omega), if_neg (by omega), nn_n (by omega), nn_n (by omega)]
    obtain ⟨x, x1, x2, -⟩ := v.1.1.1 a b ha hb
    exact ⟨x, x1, x2⟩
  · have h6 := ref_1 h
    have hq0 : 0 < ql p := by
      rw [hQ.1, eqI (by have := hQ.2; omega) (by omega)] at h6
      omega
    obtain ⟨-, n2⟩ := jNx_ok Lo hq0 (by have := hQ.2; omega)
    obtain ⟨k, f, t, d, mv, l⟩ := v.1.2.1 _ n2
    rw [if_pos rfl]
    exact ⟨k, by have := mv.1; omega, mv.2.2.2.2.1⟩
  · obtain ⟨r, hr, rfl, h3⟩ := ref_2 h
    rw [if_neg (by omega), if_pos rfl, nn_n (by omega)]
    obtain ⟨m, m1, m2⟩ := many_n (v.1.1.2.2 r hr).2.2.2.1.1
    exact ⟨m, by omega, m2⟩
theorem act_val {Lo : Option LWS} {p : RW} {kd : Nat} {one other costs : Int32} (hkd3 : kd < 3) (v : IV p) : (∃ k, (k = 1 ∨ k = 3 ∨ k = 5) ∧ (aAct Lo p kd one other costs).1 = rfV k ∧ ¬ okA Lo p kd one other costs) ∨ (∃ m, m ≤ 50 ∧ (aAct Lo p kd one other costs).1 = nI m ∧ okA Lo p kd one other costs) := by
  unfold aAct
  by_cases c : aRef Lo p kd one other costs = nI 0
  · rw [if_pos c, aDo_eq]
    unfold ov
    by_cases c4 : nI 400 < aRaw Lo p kd one other costs 6
    · rw [if_pos c4]
      exact Or.inl ⟨5, by omega, by show (-5 : Int32) = rfV 5; decide, fun z => z.2 c4⟩
    · rw [if_neg c4]
      obtain ⟨m, m1, m2⟩ := told_n hkd3 v c
      exact Or.inr ⟨m, m1, m2, c, c4⟩
  · rw [if_neg c]
    rcases ref_val c with z | z
    · exact Or.inl ⟨1, by omega, z, fun y => c y.1⟩
    · exact Or.inl ⟨3, by omega, z, fun y => c y.1⟩
/-- what the reference's act leaves -/
def MaF (h h3 : MH) (p q : RW) (n kd : Nat) (kept : Prop) : Prop := (hsz h3 = hsz h ∧ hcc h3 = hcc h ∧ hcu h3 = hcu h ∧ SHE h h3) ∧ (∀ a, a ≠ 273 → hfi h3 a = hfi h a) ∧ (∀ k, k ≠ 8 → k ≠ 34 → k ≠ 38 → hfi h3 273 k = hfi h 273 k) ∧ (∀ a, a ≠ 275 → a ≠ 278 → a ≠ 279 → hia h3 a = hia h a) ∧ (∀ a, a ≠ 291 → a ≠ 293 → hja h3 a = hja h a) ∧ hia h3 275 = q ∧ (kept → hia h3 278 = rmU (ka (hia h 278) p) n ∧ hia h3 279 = rmO (hia h 279) n (nI kd) ∧ hfi h3 273 8 = nI (rmN n)) ∧ (¬ kept → (∀ x, x < 31482 → hia h3 278 x = hia h 278 x) ∧ hia h3 279 = hia h 279 ∧ hfi h3 273 8 = hfi h 273 8) ∧ (∀ k, k ≠ 39 → k ≠ 40 → hfj h3 273 k = hfj h 273 k)
theorem MK.e {h h1 : MH} (m : MK h h1) : (hsz h1 = hsz h ∧ hcc h1 = hcc h ∧ hcu h1 = hcu h ∧ SHE h h1) ∧ hia h1 = hia h ∧ (∀ a, a ≠ 273 → hfi h1 a = hfi h a) ∧ (∀ k, k ≠ 34 → k ≠ 38 → hfi h1 273 k = hfi h 273 k) ∧ (∀ a, a ≠ 291 → a ≠ 293 → hja h1 a = hja h a) := by
  obtain ⟨⟨m1, m2, m3, m4, m5, m6, m7, m8⟩, m9, m10, m11⟩ := m
  exact ⟨⟨m1, m2, m3, m4, m5, m6, m8⟩, m7, fun a ha => funext fun k => m9 a k (Or.inl ha), fun k a b => m9 273 k (Or.inr ⟨a, b⟩), m11⟩
theorem MaF_ref {h h1 : MH} {p : RW} {n kd : Nat} {kept : Prop} (m : MK h h1) (hp : hia h 275 = p) (hk : ¬ kept) : MaF h h1 p p n kd kept := by
  obtain ⟨e1, e2, e3, e4, e5⟩ := m.e
  exact ⟨e1, e3, fun k _ a b => e4 k a b, fun a _ _ _ => by rw [e2], e5, by rw [e2]; exact hp, fun z => absurd z hk, fun _ => ⟨fun x _ => by rw [e2], by rw [e2], e4 8 (by omega) (by omega)⟩, fun k a b => m.2.2.1 273 k (Or.inr ⟨a, b⟩)⟩
theorem fj_ia (h : MH) (a : Nat) (f : Nat → Int32) : hfj (sIA h a f) = hfj h := rfl
theorem fj_fi (h : MH) (a : Nat) (f : Nat → Int32) : hfj (sFI h a f) = hfj h := rfl
theorem she_ia (h : MH) (a : Nat) (f : Nat → Int32) : (hsz (sIA h a f) = hsz h ∧ hcc (sIA h a f) = hcc h ∧ hcu (sIA h a f) = hcu h ∧ SHE h (sIA h a f)) ∧ hja (sIA h a f) = hja h := ⟨⟨rfl, rfl, rfl, SHE.refl h⟩, rfl⟩
theorem she_fi (h : MH) (a : Nat) (f : Nat → Int32) : (hsz (sFI h a f) = hsz h ∧ hcc (sFI h a f) = hcc h ∧ hcu (sFI h a f) = hcu h ∧ SHE h (sFI h a f)) ∧ hja (sFI h a f) = hja h := ⟨⟨rfl, rfl, rfl, SHE.refl h⟩, rfl⟩
theorem she_t {a b c : MH} (x : (hsz b = hsz a ∧ hcc b = hcc a ∧ hcu b = hcu a ∧ SHE a b) ∧ hja b = hja a) (y : (hsz c = hsz b ∧ hcc c = hcc b ∧ hcu c = hcu b ∧ SHE b c) ∧ hja c = hja b) : (hsz c = hsz a ∧ hcc c = hcc a ∧ hcu c = hcu a ∧ SHE a c) ∧ hja c = hja a := ⟨⟨y.1.1.trans x.1.1, y.1.2.1.trans x.1.2.1, y.1.2.2.1.trans x.1.2.2.1, x.1.2.2.2.trans y.1.2.2.2⟩, y.2.trans x.2⟩
theorem MaF_fin {h h1 : MH} {p q : RW} {n kd : Nat} {told : Int32} (m : MK h h1) (hp : hia h 275 = p) {kept : Prop} (hk : kept ↔ ¬ nI 400 < q 6) : MaF h (mFin h1 p q (hia h 278) (hia h 279) n kd) p (ov p q told).2 n kd kept := by
  obtain ⟨e1, e2, e3, e4, e5⟩ := m.e
  unfold mFin ov
  by_cases c : nI 400 < q 6
  · rw [if_pos c, if_pos c]
    have nk : ¬ kept := fun z => hk.mp z c
    generalize bk p q = B at *
    generalize hK : ka (hia h 278) p = K at *
    have S := she_t (she_ia h1 275 B) (she_ia (sIA h1 275 B) 278 K)
    have g1 : ∀ a, a ≠ 275 → a ≠ 278 → hia (sIA (sIA h1 275 B) 278 K) a = hia h a := fun a a1 a2 => by rw [hia_n _ _ a2, hia_n _ _ a1, e2]
    have g2 : hia (sIA (sIA h1 275 B) 278 K) 278 = K := hia_s _ _ _
    have g3 : hia (sIA (sIA h1 275 B) 278 K) 275 = B := by rw [hia_n _ _ (by omega), hia_s]
    have gf : hfi (sIA (sIA h1 275 B) 278 K) = hfi h1 := (fi_ia _ _ _).trans (fi_ia _ _ _)
    have gj : hfj (sIA (sIA h1 275 B) 278 K) = hfj h1 := (fj_ia _ _ _).trans (fj_ia _ _ _)
    generalize sIA (sIA h1 275 B) 278 K = h3 at *
    refine ⟨⟨S.1.1.trans e1.1, S.1.2.1.trans e1.2.1, S.1.2.2.1.trans e1.2.2.1, e1.2.2.2.trans S.1.2.2.2⟩, fun a ha => by rw [gf]; exact e3 a ha, fun k _ a b => by rw [gf]; exact e4 k a b, fun a a1 a2 _ => g1 a a1 a2, fun a a1 a2 => by rw [S.2]; exact e5 a a1 a2, g3, fun z => absurd z nk, fun _ => ⟨fun x hx => ?_, g1 279 (by omega) (by omega), by rw [gf]; exact e4 8 (by omega) (by omega)⟩, fun k a b => by rw [gj]; exact m.2.2.1 273 k (Or.inr ⟨a, b⟩)⟩
    rw [g2, ← hK, ka_lo (by omega)]
  · rw [if_neg c, if_neg c]
    have ky : kept := hk.mpr c
    generalize hK : rmU (ka (hia h 278) p) n = K at *
    generalize hO : rmO (hia h 279) n (nI kd) = O at *
    have S := she_t (she_t (she_t (she_ia h1 275 q) (she_ia (sIA h1 275 q) 278 K)) (she_ia (sIA (sIA h1 275 q) 278 K) 279 O)) (she_fi (sIA (sIA (sIA h1 275 q) 278 K) 279 O) 273 (up1 (hfi h1 273) 8 (nI (rmN n))))
    have g1 : ∀ a, a ≠ 275 → a ≠ 278 → a ≠ 279 → hia (sIA (sIA (sIA h1 275 q) 278 K) 279 O) a = hia h a := fun a a1 a2 a3 => by rw [hia_n _ _ a3, hia_n _ _ a2, hia_n _ _ a1, e2]
    have g2 : hia (sIA (sIA (sIA h1 275 q) 278 K) 279 O) 278 = K := by rw [hia_n _ _ (by omega), hia_s]
    have g3 : hia (sIA (sIA (sIA h1 275 q) 278 K) 279 O) 275 = q := by rw [hia_n _ _ (by omega), hia_n _ _ (by omega), hia_s]
    have g4 : hia (sIA (sIA (sIA h1 275 q) 278 K) 279 O) 279 = O := hia_s _ _ _
    have gf : hfi (sIA (sIA (sIA h1 275 q) 278 K) 279 O) = hfi h1 := ((fi_ia _ _ _).trans (fi_ia _ _ _)).trans (fi_ia _ _ _)
    have gj : hfj (sIA (sIA (sIA h1 275 q) 278 K) 279 O) = hfj h1 := ((fj_ia _ _ _).trans (fj_ia _ _ _)).trans (fj_ia _ _ _)
    generalize sIA (sIA (sIA h1 275 q) 278 K) 279 O = h2 at *
    have f1 : hfi (sFI h2 273 (up1 (hfi h1 273) 8 (nI (rmN n)))) 273 = up1 (hfi h1 273) 8 (nI (rmN n)) := hfi_s _ _ _
    have f2 : ∀ a, a ≠ 273 → hfi (sFI h2 273 (up1 (hfi h1 273) 8 (nI (rmN n)))) a = hfi h1 a := fun a ha => by rw [hfi_nn _ _ ha, gf]
    have f3 : hia (sFI h2 273 (up1 (hfi h1 273) 8 (nI (rmN n)))) = hia h2 := ia_fi _ _ _
    have fj : hfj (sFI h2 273 (up1 (hfi h1 273) 8 (nI (rmN n)))) = hfj h2 := fj_fi _ _ _
    generalize sFI h2 273 (up1 (hfi h1 273) 8 (nI (rmN n))) = h3 at *
    exact ⟨⟨S.1.1.trans e1.1, S.1.2.1.trans e1.2.1, S.1.2.2.1.trans e1.2.2.1, e1.2.2.2.trans S.1.2.2.2⟩, fun a ha => by rw [f2 a ha]; exact e3 a ha, fun k a b c => by rw [f1, up1_n _ _ a]; exact e4 k b c, fun a a1 a2 a3 => by rw [f3]; exact g1 a a1 a2 a3, fun a a1 a2 => by rw [S.2]; exact e5 a a1 a2, by rw [f3]; exact g3, fun _ => ⟨by rw [f3]; exact g2.trans hK.symm, by rw [f3]; exact g4.trans hO.symm, by rw [f1, up1_s]⟩, fun z => absurd ky z, fun k a b => by rw [fj, gj]; exact m.2.2.1 273 k (Or.inr ⟨a, b⟩)⟩
theorem now_step (d n : Nat) {Lo : Option LWS} {h : MH} {p : RW} (S : MSt h p (hia h 278) (hia h 279) n) (v : IV p) (hF : FO p Lo) (hR : RN p) (Q : RT) (kk : ∀ h3, MaF h h3 p (aAct Lo p 1 (nI 0) (nI 0) (nI 0)).2 n 1 (okA Lo p 1 (nI 0) (nI 0) (nI 0)) → Q (some (.int (aAct Lo p 1 (nI 0) (nI 0) (nI 0)).1)) h3) : callD (d + 10) 215 [.ref 273] h Q := by
  have hp := S.2.1
  refine m_step d n S v hF hR Q (fun c => ?_) (fun c h1 m => ?_)
  · have e : aRef Lo p 1 (nI 0) (nI 0) (nI 0) = -3 := by unfold aRef; rw [if_pos rfl, if_pos c]
    have ne : ¬ aRef Lo p 1 (nI 0) (nI 0) (nI 0) = nI 0 := by rw [e]; decide
    have ea : aAct Lo p 1 (nI 0) (nI 0) (nI 0) = (-3, p) := by unfold aAct; rw [if_neg ne, e]
    rw [ea] at kk
    exact kk h (MaF_ref (MK.refl h) hp (fun z => ne z.1))
  · have e : aRef Lo p 1 (nI 0) (nI 0) (nI 0) = nI 0 := by unfold aRef; rw [if_pos rfl, if_neg c]
    have ea : aAct Lo p 1 (nI 0) (nI 0) (nI 0) = ov p (dl Lo p) (p (154 + 4 * jNx Lo p)) := by unfold aAct aDo; rw [if_pos e, if_pos rfl]
    rw [ea] at kk
    exact kk _ (MaF_fin m hp ⟨fun z => z.2, fun z => ⟨e, z⟩⟩)
theorem now_cut (d n : Nat) {Lo : Option LWS} {h : MH} {p : RW} (S : MSt h p (hia h 278) (hia h 279) n) (v : IV p) (one : Int32) (Q : RT) (kk : ∀ h3, MaF h h3 p (aAct Lo p 2 one (nI 0) (nI 0)).2 n 2 (okA Lo p 2 one (nI 0) (nI 0)) → Q (some (.int (aAct Lo p 2 one (nI 0) (nI 0)).1)) h3) : callD (d + 9) 217 [.ref 273, .int one] h Q := by
  have hp := S.2.1
  refine m_cut (Lo := Lo) d n S v one Q (fun c => ?_) (fun c => ?_)
  · have c' : ¬ aRef Lo p 2 one (nI 0) (nI 0) = nI 0 := c
    have ea : aAct Lo p 2 one (nI 0) (nI 0) = (aRef Lo p 2 one (nI 0) (nI 0), p) := by unfold aAct; rw [if_neg c']
    rw [ea] at kk
    exact kk h (MaF_ref (MK.refl h) hp (fun z => c' z.1))
  · have c' : aRef Lo p 2 one (nI 0) (nI 0) = nI 0 := c
    have ea : aAct Lo p 2 one (nI 0) (nI 0) = ov p (mCut p (nn one)) (mMany (gR p (nn one) 4)) := by unfold aAct aDo; rw [if_pos c', if_neg (by omega), if_pos rfl]
    rw [ea] at kk
    exact kk _ (MaF_fin (MK.refl h) hp ⟨fun z => z.2, fun z => ⟨c', z⟩⟩)
theorem now_link (d n : Nat) {Lo : Option LWS} {h : MH} {p : RW} (S : MSt h p (hia h 278) (hia h 279) n) (v : IV p) (hF : FO p Lo) (hR : RN p) (one other costs : Int32) (Q : RT) (kk : ∀ h3, MaF h h3 p (aAct Lo p 0 one other costs).2 n 0 (okA Lo p 0 one other costs) → Q (some (.int (aAct Lo p 0 one other costs).1)) h3) : callD (d + 9) 209 [.ref 273, .int one, .int other, .int costs] h Q := by
  have hp := S.2.1
  refine m_link d n S v hF hR one other costs Q (fun c h1 m => ?_) (fun c h1 m => ?_)
  · have ea : aAct Lo p 0 one other costs = (aRef Lo p 0 one other costs, p) := by unfold aAct; rw [if_neg c]
    rw [ea] at kk
    exact kk h1 (MaF_ref m hp (fun z => c z.1))
  · have ea : aAct Lo p 0 one other costs = ov p (mLnk p (nn one) (nn other) costs) (gC p (nn one) (nn other)) := by unfold aAct aDo; rw [if_pos c, if_neg (by omega), if_neg (by omega)]
    rw [ea] at kk
    exact kk _ (MaF_fin m hp ⟨fun z => z.2, fun z => ⟨c, z⟩⟩)
