/-! ===== calls that change the world or the tape ===== -/
def KI (h h' : MH) : Prop := (hsz h ≤ hsz h' ∧ hkd h' 1 = hkd h 1 ∧ hln h' 1 = hln h 1 ∧ hia h' 1 = hia h 1) ∧ (XS h → XS h') ∧ (MoS h → MoS h') ∧ (∀ a, (288 ≤ a ∧ a ≤ 290) ∨ a = 297 → hja h' a = hja h a) ∧ (hfi h' 24 2 = hfi h 24 2 ∧ hfi h' 24 8 = hfi h 24 8 ∧ hfi h' 273 52 = hfi h 273 52) ∧ (∀ a, a = 231 ∨ a = 245 ∨ a = 246 ∨ a = 259 ∨ a = 260 → hfi h' a = hfi h a) ∧ (∀ a, (232 ≤ a ∧ a ≤ 240) ∨ (245 ≤ a ∧ a ≤ 272) ∨ a = 276 ∨ a = 277 ∨ a = 299 → hia h' a = hia h a) ∧ (hra h' 256 = hra h 256 ∧ hra h' 270 = hra h 270) ∧ (∀ x, 300 ≤ x → x < hsz h → hkd h' x = hkd h x ∧ hln h' x = hln h x ∧ hfr h' x = hfr h x ∧ hfi h' x = hfi h x ∧ hia h' x = hia h x)
theorem KI.trans {a b c : MH} (x : KI a b) (y : KI b c) : KI a c := by
  obtain ⟨⟨x1, xa, xb, xc⟩, x2, x3, x4, ⟨x5, x6, x7⟩, x8, x9, ⟨x10, x11⟩, x12⟩ := x
  obtain ⟨⟨y1, ya, yb, yc⟩, y2, y3, y4, ⟨y5, y6, y7⟩, y8, y9, ⟨y10, y11⟩, y12⟩ := y
  refine ⟨⟨by omega, ya.trans xa, yb.trans xb, yc.trans xc⟩, fun s => y2 (x2 s), fun s => y3 (x3 s), fun a ha => (y4 a ha).trans (x4 a ha), ⟨y5.trans x5, y6.trans x6, y7.trans x7⟩, fun a ha => (y8 a ha).trans (x8 a ha), fun a ha => (y9 a ha).trans (x9 a ha), ⟨y10.trans x10, y11.trans x11⟩, fun q h1 h2 => ?_⟩
  obtain ⟨u1, u2, u3, u4, u5⟩ := x12 q h1 h2
  obtain ⟨v1, v2, v3, v4, v5⟩ := y12 q h1 (by omega)
  exact ⟨v1.trans u1, v2.trans u2, v3.trans u3, v4.trans u4, v5.trans u5⟩
theorem KI_e {h h' : MH} (hz : hsz h' = hsz h) (e : SHE h h') (e4 : ∀ a, (288 ≤ a ∧ a ≤ 290) ∨ a = 297 → hja h' a = hja h a) (e5 : hfi h' 24 2 = hfi h 24 2 ∧ hfi h' 24 8 = hfi h 24 8 ∧ hfi h' 273 52 = hfi h 273 52) (e6 : ∀ a, a = 231 ∨ a = 245 ∨ a = 246 ∨ a = 259 ∨ a = 260 ∨ 300 ≤ a → hfi h' a = hfi h a) (e7 : ∀ a, a = 1 ∨ (232 ≤ a ∧ a ≤ 240) ∨ (245 ≤ a ∧ a ≤ 272) ∨ a = 276 ∨ a = 277 ∨ 299 ≤ a → hia h' a = hia h a) : KI h h' :=
  ⟨⟨by omega, by rw [e.1], by rw [e.2.1], e7 1 (by omega)⟩, fun s => XS_e e s, fun s => e.M s, e4, e5, fun a ha => e6 a (by omega), fun a ha => e7 a (by omega), ⟨by rw [e.2.2.2], by rw [e.2.2.2]⟩, fun x h1 _ => ⟨by rw [e.1], by rw [e.2.1], by rw [e.2.2.1], e6 x (by omega), e7 x (by omega)⟩⟩
theorem KI.refl (h : MH) : KI h h := KI_e rfl (SHE.refl h) (fun _ _ => rfl) ⟨rfl, rfl, rfl⟩ (fun _ _ => rfl) (fun _ _ => rfl)
theorem KQ.I {h h' : MH} (k : KQ h h') : KI h h' := KI_e k.1.1 k.1.2.2.2 k.2.2.2.2.2.1 ⟨k.2.2.1.2.1, k.2.2.1.2.2, k.2.2.2.1 52 (by omega)⟩ (fun a ha => k.2.1 a (by omega) (by omega) (by omega) (by omega) (by omega) (by omega)) (fun a ha => k.2.2.2.2.1 a (scr_n (by omega)) (by omega) (by omega))
/-- cells of no image and of no day -/
theorem KI_fi (h : MH) {a : Nat} (f : Nat → Int32) (ha : a = 25 ∨ a = 26 ∨ a = 40 ∨ a = 213 ∨ a = 214 ∨ (a = 24 ∧ f 2 = hfi h 24 2 ∧ f 8 = hfi h 24 8) ∨ (a = 273 ∧ f 52 = hfi h 273 52)) : KI h (sFI h a f) := by
  refine KI_e rfl (SHE.refl h) (fun _ _ => rfl) ⟨?_, ?_, ?_⟩ (fun b hb => hfi_nn _ _ (by omega)) (fun _ _ => rfl)
  · by_cases c : a = 24
    · subst c; rw [hfi_s]; rcases ha with z | z | z | z | z | z | z <;> first | omega | exact z.2.1
    · rw [hfi_nn _ _ (fun z => c z.symm)]
  · by_cases c : a = 24
    · subst c; rw [hfi_s]; rcases ha with z | z | z | z | z | z | z <;> first | omega | exact z.2.2
    · rw [hfi_nn _ _ (fun z => c z.symm)]
  · by_cases c : a = 273
    · subst c; rw [hfi_s]; rcases ha with z | z | z | z | z | z | z <;> first | omega | exact z.2
    · rw [hfi_nn _ _ (fun z => c z.symm)]
theorem KI_ia (h : MH) {a : Nat} (f : Nat → Int32) (ha : (1 < a ∧ a < 232) ∨ (240 < a ∧ a < 245) ∨ a = 274 ∨ a = 275 ∨ (277 < a ∧ a < 299)) : KI h (sIA h a f) := KI_e rfl (SHE.refl h) (fun _ _ => rfl) ⟨rfl, rfl, rfl⟩ (fun _ _ => rfl) (fun b hb => hia_n _ _ (by omega))
theorem GI_mk {h h' : MH} (k : KI h h') (g : GI h) (w : WV h' 25 (hia h' 275)) (r : ∃ nx n, RgV h' nx n) (c : CtV h') (t : ∃ T, TpV h' T) : GI h' := by
  obtain ⟨⟨k1, ka, kb, kc⟩, k2, k3, k4, ⟨k5, k6, k7⟩, k8, k9, ⟨k10, k11⟩, k12⟩ := k
  obtain ⟨g1, ⟨g2, g3, g4⟩, g5, g6, g7, g8, g9, g10, g11⟩ := g
  exact ⟨k2 g1, ⟨k3 g2, WDM_a k4 g3, HDM_a k4 g4⟩, by omega, w, r, ImV_a k1 k5 (fun W hW => by
    rcases hW with rfl | rfl
    · exact ⟨k8 245 (by omega), k8 246 (by omega), k10⟩
    · exact ⟨k8 259 (by omega), k8 260 (by omega), k11⟩) (fun a h1 h2 => k9 a (by omega)) k12 (k9 276 (by omega)) (k9 277 (by omega)) g8, c, t, DyV_a ⟨ka, kb, kc⟩ k6 k7 (k8 231 (by omega)) (fun a h1 h2 => k9 a (by omega)) (k9 299 (by omega)) g11⟩
theorem TP_end {h h' : MH} {T : TP} {n : Nat} (hn : n ≤ T.2) (t : TpV h T) (e1 : hia h' 215 = hia h 215) (e2 : hia h' 282 = hia h 282) (e3 : hfi h' 214 1 = nI n) (e4 : hfi h' 273 13 = nI n) : TpV h' (T.1, n) := by
  obtain ⟨t1, t2, t3, t4⟩ := t
  refine ⟨?_, ?_, e3, e4⟩
  · rw [e1]; exact ⟨Nat.le_trans hn t1.1, fun i hi => t1.2 i (Nat.lt_of_lt_of_le hi hn)⟩
  · rw [e2]; exact ⟨Nat.le_trans hn t2.1, fun i hi => t2.2 i (Nat.lt_of_lt_of_le hi hn)⟩
theorem in_n {x : Int32} {m : Nat} (hm : m < 2 ^ 31) (h0 : ¬ x < nI 0) (h1 : x ≤ nI m) : ∃ n, n ≤ m ∧ x = nI n := by
  refine ⟨x.toInt.toNat, ?_, ?_⟩
  · rw [Int32.le_iff_toInt_le, nI_toInt hm] at h1
    omega
  · rw [Int32.lt_iff_toInt_lt, nI_toInt (by omega)] at h0
    apply Int32.toInt_inj.mp
    have := Int32.toInt_lt x
    rw [nI_toInt (by omega)]
    omega
