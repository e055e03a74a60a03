/-! ===== the program's object beside the reference's ===== -/
def uR (u : Nat → Int32) (j : Nat) : RW := fun x => u (1749 * j + (x - 5))
def rgP (nx n j : Nat) : Nat := (nx + 17 - n + j) % 17
/-- what can be taken back -/
def RgV (h : MH) (nx n : Nat) : Prop := nx < 17 ∧ n ≤ 16 ∧ hfi h 40 2 = nI nx ∧ hfi h 40 3 = nI n ∧ hfi h 273 8 = nI n ∧ ∀ j, j < n → NeV h (43 + 10 * rgP nx n j) (uR (hia h 278) j) ∧ IV (uR (hia h 278) j) ∧ hia h 42 (rgP nx n j) = hia h 279 j ∧ ∃ kd, kd < 3 ∧ hia h 279 j = nI kd
def PXh (h : MH) (a : Nat) (L : LWS) : Prop := ∃ N l, PXs h a (a + 1) (a + 2) N L.1 ∧ ∀ i, i < L.1 → L.2.1 i ≤ 1 ∧ hia h (a + 2) (6 * i) = nI (3 + L.2.1 i) ∧ XT h (a + 1) N l lawW (L.2.2.1 i) (hia h (a + 2) (6 * i + 2)) ∧ (L.2.1 i = 0 → ∃ t, t ≤ 448 ∧ hia h (a + 2) (6 * i + 3) = nI t ∧ XE h (a + 1) N l lawW t (L.2.2.2 i))
theorem PXh.P {h : MH} {a : Nat} {L : LWS} (x : PXh h a L) : PX h a L := by
  obtain ⟨N, l, x1, x2⟩ := x
  exact ⟨a + 1, a + 2, N, l, x1, x2⟩
theorem PXh_a {h h' : MH} {a : Nat} {L : LWS} (e : ∀ x, a ≤ x → x ≤ a + 2 → hkd h' x = hkd h x ∧ hln h' x = hln h x ∧ hfr h' x = hfr h x ∧ hfi h' x = hfi h x ∧ hia h' x = hia h x) (x : PXh h a L) : PXh h' a L := by
  obtain ⟨a1, a2, a3, a4, a5⟩ := e a (by omega) (by omega)
  obtain ⟨b1, b2, b3, b4, b5⟩ := e (a + 1) (by omega) (by omega)
  obtain ⟨c1, c2, c3, c4, c5⟩ := e (a + 2) (by omega) (by omega)
  unfold PXh PXs XT XE at *
  rw [a1, a3, a4, b1, b2, b5, c1, c2, c5]
  exact x
/-- the laws of a world -/
def LwV (h : MH) (A : Nat) (p : RW) : Prop := ∃ nl, nl ≤ 6 ∧ p 1 = nI nl ∧ (p 2 = -1 ∨ ∃ f, f < nl ∧ p 2 = nI f) ∧ ∀ i, i < nl → ∃ a L, hra h A i = some a ∧ 300 ≤ a ∧ a + 2 < hsz h ∧ PXh h a L ∧ TX p i L
def SnV (h : MH) (W : Nat) (p : RW) : Prop := ∃ ns, ns ≤ 6 ∧ p 0 = nI ns ∧ ∀ i, i < ns → hia h (W + 12) i = p (2010 + 2 * i) ∧ hia h (W + 13) i = p (2010 + 2 * i + 1) ∧ (∃ x, x < 4 ∧ p (2010 + 2 * i) = nI x) ∧ ∃ x, x < 7 ∧ p (2010 + 2 * i + 1) = nI x
/-- a world beside a row -/
def WV (h : MH) (W : Nat) (p : RW) : Prop := NeV h (W + 1) p ∧ IV p ∧ (hfi h W 4 = p 1 ∧ hfi h W 5 = p 2 ∧ hfi h W 6 = p 0 ∧ hfi h W 7 = p 3 ∧ hfi h W 8 = p 4) ∧ LwV h (W + 11) p ∧ SnV h W p ∧ RN p ∧ ∃ sl, sl ≤ 10 ∧ p 3 = nI sl
theorem WV_a {h h' : MH} {W : Nat} {p : RW} (hz : hsz h ≤ hsz h') (e1 : hfi h' W = hfi h W ∧ hfi h' (W + 1) = hfi h (W + 1)) (e2 : ∀ a, W < a → a ≤ W + 13 → hia h' a = hia h a) (e3 : hra h' (W + 11) = hra h (W + 11)) (e4 : ∀ x, 300 ≤ x → x < hsz h → hkd h' x = hkd h x ∧ hln h' x = hln h x ∧ hfr h' x = hfr h x ∧ hfi h' x = hfi h x ∧ hia h' x = hia h x) (x : WV h W p) : WV h' W p := by
  obtain ⟨x1, x2, x3, ⟨nl, l1, l2, l3, l4⟩, ⟨ns, s1, s2, s3⟩, x6, x7⟩ := x
  refine ⟨NeV_a e1.2 (fun a h1 h2 => e2 a (by omega) (by omega)) x1, x2, by rw [e1.1]; exact x3, ⟨nl, l1, l2, l3, fun i hi => ?_⟩, ⟨ns, s1, s2, fun i hi => ?_⟩, x6, x7⟩
  · obtain ⟨a, L, y1, y2, y3, y4, y5⟩ := l4 i hi
    exact ⟨a, L, by rw [e3]; exact y1, y2, by omega, PXh_a (fun x h1 h2 => e4 x (by omega) (by omega)) y4, y5⟩
  · rw [e2 (W + 12) (by omega) (by omega), e2 (W + 13) (by omega) (by omega)]
    exact s3 i hi
def iR (m : Nat → Int32) (k : Nat) : RW := fun x => m (7422 * k + x)
/-- the images -/
def ImV (h : MH) : Prop := ∃ b0 b1, b0 ≤ 1 ∧ b1 ≤ 1 ∧ hfi h 24 2 = nI (b0 + 2 * b1) ∧ hia h 277 0 = nI b0 ∧ hia h 277 1 = nI b1 ∧ (b0 = 1 → WV h 245 (iR (hia h 276) 0)) ∧ (b1 = 1 → WV h 259 (iR (hia h 276) 1))
/-- what is counted, the latest refusal, blots, where orders stopped, the fault -/
def CtV (h : MH) : Prop := (hia h 244 0 = hia h 274 1 ∧ hia h 244 1 = hia h 274 2 ∧ hia h 244 2 = hia h 274 3 ∧ hia h 244 3 = hia h 274 5 ∧ hia h 244 4 = hia h 274 6) ∧ hfi h 24 13 = hfi h 273 1 ∧ hfi h 24 14 = hfi h 273 11 ∧ hfi h 24 15 = hfi h 273 48 ∧ hfi h 213 6 = hfi h 273 18 ∧ hfi h 273 20 = nI 0
def TpV (h : MH) (T : TP) : Prop := TB (hia h 215) T ∧ TB (hia h 282) T ∧ hfi h 214 1 = nI T.2 ∧ hfi h 273 13 = nI T.2
/-- the days drawn -/
def DyV (h : MH) : Prop := (hkd h 1 = 20 ∧ hln h 1 = 3 ∧ hia h 1 0 = nI 999 ∧ hia h 1 1 = nI 10 ∧ hia h 1 2 = nI 9) ∧ ∃ b, b ≤ 1 ∧ hfi h 24 8 = nI b ∧ hfi h 273 52 = nI b ∧ (b = 1 → ∃ q, NeV h 231 q ∧ IV q ∧ ∀ r, r < 7 → hia h 299 (3 * r) = gR q r 0 ∧ hia h 299 (3 * r + 1) = gR q r 3 ∧ hia h 299 (3 * r + 2) = gR q r 2)
def GI (h : MH) : Prop := XS h ∧ (MoS h ∧ WDM h ∧ HDM h) ∧ 300 ≤ hsz h ∧ WV h 25 (hia h 275) ∧ (∃ nx n, RgV h nx n) ∧ ImV h ∧ CtV h ∧ (∃ T, TpV h T) ∧ DyV h
/-- cells that carry nothing from call to call -/
def scr (a : Nat) : Prop := a = 219 ∨ a = 220 ∨ (222 ≤ a ∧ a ≤ 230) ∨ a = 216 ∨ a = 217 ∨ a = 241 ∨ a = 243 ∨ a = 278 ∨ a = 280 ∨ a = 281 ∨ (283 ≤ a ∧ a ≤ 287) ∨ a = 294 ∨ a = 295 ∨ a = 298
/-- all that matters is kept -/
def KP (h h' : MH) : Prop := (hsz h' = hsz h ∧ hcc h' = hcc h ∧ hcu h' = hcu h ∧ SHE h h') ∧ (∀ a, a ≠ 273 → a ≠ 221 → a ≠ 218 → a ≠ 213 → a ≠ 214 → hfi h' a = hfi h a) ∧ (hfi h' 213 6 = hfi h 213 6 ∧ hfi h' 214 1 = hfi h 214 1) ∧ (∀ k, k = 1 ∨ k = 8 ∨ k = 11 ∨ k = 13 ∨ k = 18 ∨ k = 20 ∨ k = 48 ∨ k = 52 → hfi h' 273 k = hfi h 273 k) ∧ (∀ a, ¬ scr a → hia h' a = hia h a) ∧ (∀ a, (288 ≤ a ∧ a ≤ 290) ∨ a = 297 → hja h' a = hja h a) ∧ (∀ x, x < 27984 → hia h' 278 x = hia h 278 x)
theorem KP.refl (h : MH) : KP h h := ⟨⟨rfl, rfl, rfl, SHE.refl h⟩, fun _ _ _ _ _ _ => rfl, ⟨rfl, rfl⟩, fun _ _ => rfl, fun _ _ => rfl, fun _ _ => rfl, fun _ _ => rfl⟩
theorem KP.trans {a b c : MH} (x : KP a b) (y : KP b c) : KP a c := by
  obtain ⟨⟨x1, x2, x3, x4⟩, x5, x6, x7, x8, x9, x10⟩ := x
  obtain ⟨⟨y1, y2, y3, y4⟩, y5, y6, y7, y8, y9, y10⟩ := y
  exact ⟨⟨y1.trans x1, y2.trans x2, y3.trans x3, x4.trans y4⟩, fun p a b c d e => (y5 p a b c d e).trans (x5 p a b c d e), ⟨y6.1.trans x6.1, y6.2.trans x6.2⟩, fun p q => (y7 p q).trans (x7 p q), fun p q => (y8 p q).trans (x8 p q), fun p q => (y9 p q).trans (x9 p q), fun p q => (y10 p q).trans (x10 p q)⟩
theorem MoS_e {h h' : MH} (e : SHE h h') (s : MoS h) : MoS h' := e.M s
theorem rgP_lt (nx n j : Nat) : rgP nx n j < 17 := Nat.mod_lt _ (by omega)
theorem uR_c {u u' : Nat → Int32} {j : Nat} (hj : j < 16) (e : ∀ x, x < 27984 → u' x = u x) : ∀ x, 5 ≤ x → x < 1754 → uR u' j x = uR u j x := fun x h1 h2 => e _ (by omega)
theorem IV.q {p : RW} (v : IV p) : QL p 400 := v.1.2.2.2
theorem WDM_a {h h' : MH} (e : ∀ a, (288 ≤ a ∧ a ≤ 290) ∨ a = 297 → hja h' a = hja h a) (w : WDM h) : WDM h' := by
  unfold WDM at *
  rw [e 288 (by omega), e 289 (by omega)]
  exact w
theorem HDM_a {h h' : MH} (e : ∀ a, (288 ≤ a ∧ a ≤ 290) ∨ a = 297 → hja h' a = hja h a) (w : HDM h) : HDM h' := by
  unfold HDM at *
  rw [e 290 (by omega), e 297 (by omega)]
  exact w
theorem RgV_a {h h' : MH} {nx n : Nat} (e1 : hfi h' 40 = hfi h 40) (e2 : hfi h' 273 8 = hfi h 273 8) (e3 : ∀ i, i < 17 → hfi h' (43 + 10 * i) = hfi h (43 + 10 * i)) (e4 : ∀ a, 42 ≤ a → a < 213 → hia h' a = hia h a) (e5 : hia h' 279 = hia h 279) (e6 : ∀ x, x < 27984 → hia h' 278 x = hia h 278 x) (r : RgV h nx n) : RgV h' nx n := by
  obtain ⟨r1, r2, r3, r4, r5, r6⟩ := r
  refine ⟨r1, r2, by rw [e1]; exact r3, by rw [e1]; exact r4, e2.trans r5, fun j hj => ?_⟩
  obtain ⟨x1, x2, x3, x4⟩ := r6 j hj
  have lt := rgP_lt nx n j
  have c := uR_c (j := j) (by omega) e6
  refine ⟨NeV_a (e3 _ lt) (fun a h1 h2 => e4 a (by omega) (by omega)) (NeV_c c x2.q x1), IV_c c x2, by rw [e4 42 (by omega) (by omega), e5]; exact x3, by rw [e5]; exact x4⟩
theorem ImV_a {h h' : MH} (hz : hsz h ≤ hsz h') (e0 : hfi h' 24 2 = hfi h 24 2) (e1 : ∀ W, W = 245 ∨ W = 259 → hfi h' W = hfi h W ∧ hfi h' (W + 1) = hfi h (W + 1) ∧ hra h' (W + 11) = hra h (W + 11)) (e2 : ∀ a, 245 ≤ a → a ≤ 272 → hia h' a = hia h a) (e4 : ∀ x, 300 ≤ x → x < hsz h → hkd h' x = hkd h x ∧ hln h' x = hln h x ∧ hfr h' x = hfr h x ∧ hfi h' x = hfi h x ∧ hia h' x = hia h x) (e5 : hia h' 276 = hia h 276) (e6 : hia h' 277 = hia h 277) (m : ImV h) : ImV h' := by
  obtain ⟨b0, b1, m1, m2, m3, m4, m5, m6, m7⟩ := m
  refine ⟨b0, b1, m1, m2, e0.trans m3, by rw [e6]; exact m4, by rw [e6]; exact m5, fun z => ?_, fun z => ?_⟩
  · obtain ⟨y1, y2, y3⟩ := e1 245 (Or.inl rfl)
    rw [e5]; exact WV_a hz ⟨y1, y2⟩ (fun a h1 h2 => e2 a (by omega) (by omega)) y3 e4 (m6 z)
  · obtain ⟨y1, y2, y3⟩ := e1 259 (Or.inr rfl)
    rw [e5]; exact WV_a hz ⟨y1, y2⟩ (fun a h1 h2 => e2 a (by omega) (by omega)) y3 e4 (m7 z)
theorem DyV_a {h h' : MH} (e0 : hkd h' 1 = hkd h 1 ∧ hln h' 1 = hln h 1 ∧ hia h' 1 = hia h 1) (e1 : hfi h' 24 8 = hfi h 24 8) (e2 : hfi h' 273 52 = hfi h 273 52) (e3 : hfi h' 231 = hfi h 231) (e4 : ∀ a, 231 < a → a ≤ 240 → hia h' a = hia h a) (e5 : hia h' 299 = hia h 299) (x : DyV h) : DyV h' := by
  obtain ⟨s, b, b1, b2, b3, b4⟩ := x
  refine ⟨by rw [e0.1, e0.2.1, e0.2.2]; exact s, b, b1, e1.trans b2, e2.trans b3, fun z => ?_⟩
  obtain ⟨q, q1, q2, q3⟩ := b4 z
  exact ⟨q, NeV_a e3 (fun a h1 h2 => e4 a h1 (by omega)) q1, q2, by rw [e5]; exact q3⟩
theorem scr_n {a : Nat} (h : a ≠ 219 ∧ a ≠ 220 ∧ ¬ (222 ≤ a ∧ a ≤ 230) ∧ a ≠ 216 ∧ a ≠ 217 ∧ a ≠ 241 ∧ a ≠ 243 ∧ a ≠ 278 ∧ a ≠ 280 ∧ a ≠ 281 ∧ ¬ (283 ≤ a ∧ a ≤ 287) ∧ a ≠ 294 ∧ a ≠ 295 ∧ a ≠ 298) : ¬ scr a := by
  unfold scr
  omega
theorem GI_kp {h h' : MH} (k : KP h h') (g : GI h) : GI h' := by
  obtain ⟨⟨k1, k2, k3, k4⟩, k5, k6, k7, k8, k9, k10⟩ := k
  obtain ⟨g1, ⟨g2, g3, g4⟩, g5, g6, ⟨nx, n, g7⟩, g8, g9, ⟨T, g10⟩, g11⟩ := g
  have X : ∀ x, 300 ≤ x → x < hsz h → hkd h' x = hkd h x ∧ hln h' x = hln h x ∧ hfr h' x = hfr h x ∧ hfi h' x = hfi h x ∧ hia h' x = hia h x := fun x h1 _ => ⟨by rw [k4.1], by rw [k4.2.1], by rw [k4.2.2.1], k5 x (by omega) (by omega) (by omega) (by omega) (by omega), k8 x (scr_n (by omega))⟩
  have F : ∀ a, a < 213 ∨ (230 < a ∧ a < 273) → hfi h' a = hfi h a := fun a ha => k5 a (by omega) (by omega) (by omega) (by omega) (by omega)
  have C : ∀ a, a < 216 ∨ (230 < a ∧ a ≠ 241 ∧ a ≠ 243 ∧ a < 278) → hia h' a = hia h a := fun a ha => k8 a (scr_n (by omega))
  refine ⟨XS_e k4 g1, ⟨k4.M g2, WDM_a k9 g3, HDM_a k9 g4⟩, by omega, ?_, ⟨nx, n, RgV_a (F 40 (by omega)) (k7 8 (by omega)) (fun i hi => F _ (by omega)) (fun a h1 h2 => C a (by omega)) (k8 279 (scr_n (by omega))) k10 g7⟩, ImV_a (by omega) (by rw [F 24 (by omega)]) (fun W hW => ⟨F W (by omega), F (W + 1) (by omega), by rw [k4.2.2.2]⟩) (fun a h1 h2 => C a (by omega)) X (C 276 (by omega)) (C 277 (by omega)) g8, ?_, ⟨T, ?_⟩, DyV_a ⟨by rw [k4.1], by rw [k4.2.1], C 1 (by omega)⟩ (by rw [F 24 (by omega)]) (k7 52 (by omega)) (F 231 (by omega)) (fun a h1 h2 => C a (by omega)) (k8 299 (scr_n (by omega))) g11⟩
  · rw [C 275 (by omega)]
    exact WV_a (by omega) ⟨F 25 (by omega), F 26 (by omega)⟩ (fun a h1 h2 => C a (by omega)) (by rw [k4.2.2.2]) X g6
  · unfold CtV at *
    rw [C 244 (by omega), C 274 (by omega), F 24 (by omega), k6.1, k7 1 (by omega), k7 11 (by omega), k7 48 (by omega), k7 18 (by omega), k7 20 (by omega)]
    exact g9
  · unfold TpV at *
    rw [C 215 (by omega), k8 282 (scr_n (by omega)), k6.2, k7 13 (by omega)]
    exact g10
/-- how it is behind a call -/
def LA (h : MH) : Prop := ∀ W, W = 25 ∨ W = 245 ∨ W = 259 → ∀ i, i < 6 → hra h (W + 11) i = none ∨ ∃ a, hra h (W + 11) i = some a ∧ 300 ≤ a ∧ a < hsz h ∧ hkd h a = 3
def Pst (h h2 : MH) : Prop := GI h2 ∧ (hcc h2 ≤ hcc h + 3 ∧ hcu h2 ≤ hcu h + 899) ∧ hkd h2 0 = hkd h 0 ∧ hln h2 0 = hln h 0 ∧ hia h2 0 = hia h 0 ∧ (LA h → LA h2)
def FrE (h h2 : MH) : Prop := (hsz h2 = hsz h ∧ hcc h2 = hcc h ∧ hcu h2 = hcu h ∧ SHE h h2) ∧ hia h2 0 = hia h 0
theorem FrE.trans {a b c : MH} (x : FrE a b) (y : FrE b c) : FrE a c := ⟨⟨y.1.1.trans x.1.1, y.1.2.1.trans x.1.2.1, y.1.2.2.1.trans x.1.2.2.1, x.1.2.2.2.trans y.1.2.2.2⟩, y.2.trans x.2⟩
theorem Pst_e {h h2 : MH} (g : GI h2) (e : FrE h h2) : Pst h h2 := ⟨g, ⟨by rw [e.1.2.1]; exact Nat.le_add_right _ _, by rw [e.1.2.2.1]; exact Nat.le_add_right _ _⟩, by rw [e.1.2.2.2.1], by rw [e.1.2.2.2.2.1], e.2, fun la W hW i hi => by rw [e.1.1, e.1.2.2.2.1, e.1.2.2.2.2.2.2]; exact la W hW i hi⟩
theorem KP.E {h h2 : MH} (k : KP h h2) : FrE h h2 := ⟨k.1, k.2.2.2.2.1 0 (scr_n (by omega))⟩
/-- a call of the one beside the same call of the other -/
def PairOp (k x m : Nat) (args : List Value) : Prop := ∀ (d : Nat) (h : MH), GI h → callD (d + k) x (.ref 24 :: args) h (fun r h1 => ∃ v, r = some v ∧ callD (d + k) m (.ref 273 :: args) h1 (fun r2 h2 => r2 = some v ∧ Pst h h2))
