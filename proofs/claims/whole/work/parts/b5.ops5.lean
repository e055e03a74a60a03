/-! ===== forget, force ===== -/
theorem TX_c {p q : RW} {f : Nat} {L : LWS} (e : ∀ x, 2022 ≤ x → q x = p x) (t : TX p f L) : TX q f L := by
  obtain ⟨t1, t2, t3, t4, l, nc, t5, t6, t7⟩ := t
  refine ⟨t1, t2, t3, (e _ (by omega)).trans t4, l, nc, t5, fun k hk => ?_, fun i hi => ?_⟩
  · obtain ⟨o, b, o1, o2, o3, o4, o5, o6⟩ := t6 k hk
    exact ⟨o, b, o1, o2, o3, (e _ (by omega)).trans o4, (e _ (by omega)).trans o5, o6⟩
  · obtain ⟨c1, c2, s0, s1, u0, u1, e1, e2, e3, e4, r⟩ := t7 i hi
    exact ⟨c1, (e _ (by omega)).trans c2, s0, s1, u0, u1, (e _ (by omega)).trans e1, (e _ (by omega)).trans e2, (e _ (by omega)).trans e3, (e _ (by omega)).trans e4, r⟩
theorem WV_mk {h h' : MH} {W : Nat} {p p' : RW} (hz : hsz h ≤ hsz h') (e1 : hfi h' (W + 1) = hfi h (W + 1)) (e2 : ∀ a, W < a → a ≤ W + 11 → hia h' a = hia h a) (e3 : hra h' (W + 11) = hra h (W + 11)) (e4 : ∀ x, 300 ≤ x → x < hsz h → hkd h' x = hkd h x ∧ hln h' x = hln h x ∧ hfr h' x = hfr h x ∧ hfi h' x = hfi h x ∧ hia h' x = hia h x) (x : WV h W p) (c1 : ∀ y, 5 ≤ y → y < 1754 → p' y = p y) (c2 : ∀ y, 2022 ≤ y → p' y = p y) (c3 : p' 1 = p 1) (c4 : ∀ nl, nl ≤ 6 → p 1 = nI nl → (p 2 = -1 ∨ ∃ f, f < nl ∧ p 2 = nI f) → p' 2 = -1 ∨ ∃ f, f < nl ∧ p' 2 = nI f) (w : hfi h' W 4 = p' 1 ∧ hfi h' W 5 = p' 2 ∧ hfi h' W 6 = p' 0 ∧ hfi h' W 7 = p' 3 ∧ hfi h' W 8 = p' 4) (sn : SnV h' W p') (rn : RN p') (sl : ∃ sl, sl ≤ 10 ∧ p' 3 = nI sl) : WV h' W p' := by
  obtain ⟨x1, x2, x3, ⟨nl, l1, l2, l3, l4⟩, -⟩ := x
  refine ⟨NeV_c c1 x2.q (NeV_a e1 (fun a h1 h2 => e2 a (by omega) (by omega)) x1), IV_c c1 x2, w, ⟨nl, l1, c3.trans l2, c4 nl l1 l2 l3, fun i hi => ?_⟩, sn, rn, sl⟩
  obtain ⟨a, L, y1, y2, y3, y4, y5⟩ := l4 i hi
  exact ⟨a, L, by rw [e3]; exact y1, y2, by omega, PXh_a (fun x h1 h2 => e4 x (by omega) (by omega)) y4, TX_c c2 y5⟩
/-- only the world's own fields, its row and what is told have changed -/
def KWd (h h' : MH) : Prop := (hsz h' = hsz h ∧ hcc h' = hcc h ∧ hcu h' = hcu h ∧ SHE h h') ∧ (∀ a, a ≠ 273 → a ≠ 221 → a ≠ 218 → a ≠ 213 → a ≠ 214 → a ≠ 24 → a ≠ 25 → hfi h' a = hfi h a) ∧ (hfi h' 214 1 = hfi h 214 1 ∧ hfi h' 24 2 = hfi h 24 2 ∧ hfi h' 24 8 = hfi h 24 8) ∧ (∀ k, k = 8 ∨ k = 13 ∨ k = 52 → hfi h' 273 k = hfi h 273 k) ∧ (∀ a, ¬ scr a → a ≠ 244 → a ≠ 274 → a ≠ 275 → a ≠ 37 → a ≠ 38 → hia h' a = hia h a) ∧ (∀ a, (288 ≤ a ∧ a ≤ 290) ∨ a = 297 → hja h' a = hja h a) ∧ (∀ x, x < 27984 → hia h' 278 x = hia h 278 x)
theorem KQ.W {h h' : MH} (k : KQ h h') : KWd h h' := ⟨k.1, fun a b c d e f i _ => k.2.1 a b c d e f i, k.2.2.1, k.2.2.2.1, fun a b c d _ _ _ => k.2.2.2.2.1 a b c d, k.2.2.2.2.2.1, k.2.2.2.2.2.2⟩
theorem KWd.E {h h2 : MH} (k : KWd h h2) : FrE h h2 := ⟨k.1, k.2.2.2.2.1 0 (scr_n (by omega)) (by omega) (by omega) (by omega) (by omega) (by omega)⟩
theorem KWd.trans {a b c : MH} (x : KWd a b) (y : KWd b c) : KWd a c := by
  obtain ⟨⟨x1, x2, x3, x4⟩, x5, x6, x7, x8, x9, x10⟩ := x
  obtain ⟨⟨y1, y2, y3, y4⟩, y5, y6, y7, y8, y9, y10⟩ := y
  exact ⟨⟨y1.trans x1, y2.trans x2, y3.trans x3, x4.trans y4⟩, fun p a b c d e f g => (y5 p a b c d e f g).trans (x5 p a b c d e f g), ⟨y6.1.trans x6.1, y6.2.1.trans x6.2.1, y6.2.2.trans x6.2.2⟩, fun p q => (y7 p q).trans (x7 p q), fun p q r s t u v => (y8 p q r s t u v).trans (x8 p q r s t u v), fun p q => (y9 p q).trans (x9 p q), fun p q => (y10 p q).trans (x10 p q)⟩
theorem KWd_25 (h : MH) (f : Nat → Int32) : KWd h (sFI h 25 f) := ⟨⟨rfl, rfl, rfl, SHE.refl h⟩, fun a _ _ _ _ _ _ ha => hfi_nn _ _ ha, ⟨by rw [hfi_nn _ _ (by omega)], by rw [hfi_nn _ _ (by omega)], by rw [hfi_nn _ _ (by omega)]⟩, fun k _ => by rw [hfi_nn _ _ (by omega)], fun _ _ _ _ _ _ _ => rfl, fun _ _ => rfl, fun _ _ => rfl⟩
theorem KWd_i (h : MH) {x : Nat} (hx : x = 275 ∨ x = 37 ∨ x = 38) (f : Nat → Int32) : KWd h (sIA h x f) := ⟨⟨rfl, rfl, rfl, SHE.refl h⟩, fun _ _ _ _ _ _ _ _ => rfl, ⟨rfl, rfl, rfl⟩, fun _ _ => rfl, fun a _ _ _ b c d => hia_n _ _ (by omega), fun _ _ => rfl, fun y _ => by rw [hia_n _ _ (by omega)]⟩
/-- a changed world -/
theorem GI_kw {h h' : MH} (k : KWd h h') (g : GI h) (c : CtV h') (c1 : ∀ y, 5 ≤ y → y < 1754 → hia h' 275 y = hia h 275 y) (c2 : ∀ y, 2022 ≤ y → hia h' 275 y = hia h 275 y) (c3 : hia h' 275 1 = hia h 275 1) (c4 : ∀ nl, nl ≤ 6 → hia h 275 1 = nI nl → (hia h 275 2 = -1 ∨ ∃ f, f < nl ∧ hia h 275 2 = nI f) → hia h' 275 2 = -1 ∨ ∃ f, f < nl ∧ hia h' 275 2 = nI f) (w : hfi h' 25 4 = hia h' 275 1 ∧ hfi h' 25 5 = hia h' 275 2 ∧ hfi h' 25 6 = hia h' 275 0 ∧ hfi h' 25 7 = hia h' 275 3 ∧ hfi h' 25 8 = hia h' 275 4) (sn : SnV h' 25 (hia h' 275)) (rn : RN (hia h' 275)) (sl : ∃ sl, sl ≤ 10 ∧ hia h' 275 3 = nI sl) : GI h' := by
  obtain ⟨⟨k1, k2, k3, k4⟩, k5, k6, k7, k8, k9, k10⟩ := k
  obtain ⟨nx, n, g7⟩ := g.2.2.2.2.1
  obtain ⟨T, t⟩ := g.2.2.2.2.2.2.2.1
  have F : ∀ a, a ≠ 24 → a ≠ 25 → a < 213 ∨ (230 < a ∧ a < 273) ∨ 300 ≤ a → hfi h' a = hfi h a := fun a h2 h3 ha => k5 a (by omega) (by omega) (by omega) (by omega) (by omega) h2 h3
  have C : ∀ a, a ≠ 244 → a ≠ 274 → a ≠ 275 → a ≠ 37 → a ≠ 38 → a < 216 ∨ (230 < a ∧ a ≠ 241 ∧ a ≠ 243 ∧ a < 278) ∨ a = 279 ∨ a = 282 ∨ 299 ≤ a → hia h' a = hia h a := fun a b c d e f ha => k8 a (scr_n (by omega)) b c d e f
  refine GI_mk (KI_e k1 k4 k9 ⟨k6.2.1, k6.2.2, k7 52 (by omega)⟩ (fun a ha => F a (by omega) (by omega) (by omega)) (fun a ha => C a (by omega) (by omega) (by omega) (by omega) (by omega) (by omega))) g ?_ ⟨nx, n, RgV_a (F 40 (by omega) (by omega) (by omega)) (k7 8 (by omega)) (fun i hi => F _ (by omega) (by omega) (by omega)) (fun a h1 h2 => C a (by omega) (by omega) (by omega) (by omega) (by omega) (by omega)) (C 279 (by omega) (by omega) (by omega) (by omega) (by omega) (by omega)) k10 g7⟩ c ⟨T, ?_⟩
  · exact WV_mk (by omega) (F 26 (by omega) (by omega) (by omega)) (fun a h1 h2 => C a (by omega) (by omega) (by omega) (by omega) (by omega) (by omega)) (by rw [k4.2.2.2]) (fun x h1 _ => ⟨by rw [k4.1], by rw [k4.2.1], by rw [k4.2.2.1], F x (by omega) (by omega) (by omega), C x (by omega) (by omega) (by omega) (by omega) (by omega) (by omega)⟩) g.2.2.2.1 c1 c2 c3 c4 w sn rn sl
  · unfold TpV at *
    rw [C 215 (by omega) (by omega) (by omega) (by omega) (by omega) (by omega), C 282 (by omega) (by omega) (by omega) (by omega) (by omega) (by omega), k6.1, k7 13 (by omega)]
    exact t
theorem WoS_25 {h : MH} (s : XS h) : WoS h 25 := s.2.2.2.2.1.1
def wdH (h : MH) (P F G : Nat → Int32) : MH := sFI (sFI (sIA h 275 P) 25 F) 273 G
theorem wd_g (h : MH) (P F G : Nat → Int32) : hia (wdH h P F G) 275 = P ∧ hfi (wdH h P F G) 25 = F ∧ hfi (wdH h P F G) 273 = G ∧ (∀ a, a ≠ 25 → a ≠ 273 → hfi (wdH h P F G) a = hfi h a) ∧ (∀ a, a ≠ 275 → hia (wdH h P F G) a = hia h a) := by
  refine ⟨?_, ?_, ?_, fun a h1 h2 => ?_, fun a h1 => ?_⟩
  · have z := hia_s h 275 P; exact z
  · unfold wdH; rw [hfi_nn _ _ (by omega), hfi_s]
  · unfold wdH; rw [hfi_s]
  · unfold wdH; rw [hfi_nn _ _ h2, hfi_nn _ _ h1]; rfl
  · have z := hia_n h (a := 275) P h1; exact z
theorem KWd_wd (h : MH) (P F G : Nat → Int32) (hG : ∀ k, k = 8 ∨ k = 13 ∨ k = 52 → G k = hfi h 273 k) : KWd h (wdH h P F G) := by
  obtain ⟨e1, e2, e3, e4, e5⟩ := wd_g h P F G
  exact ⟨⟨rfl, rfl, rfl, SHE.refl h⟩, fun a h1 _ _ _ _ _ h2 => e4 a h2 h1, ⟨by rw [e4 214 (by omega) (by omega)], by rw [e4 24 (by omega) (by omega)], by rw [e4 24 (by omega) (by omega)]⟩, fun k hk => by rw [e3]; exact hG k hk, fun a _ _ _ h1 _ _ => e5 a h1, fun _ _ => rfl, fun x _ => by rw [e5 278 (by omega)]⟩
theorem CtV_wd {h : MH} {P F G : Nat → Int32} (hG : ∀ k, k = 1 ∨ k = 11 ∨ k = 48 ∨ k = 18 ∨ k = 20 → G k = hfi h 273 k) (c : CtV h) : CtV (wdH h P F G) := by
  obtain ⟨e1, e2, e3, e4, e5⟩ := wd_g h P F G
  unfold CtV at *
  rw [e5 244 (by omega), e5 274 (by omega), e4 24 (by omega) (by omega), e4 213 (by omega) (by omega), e3, hG 1 (by omega), hG 11 (by omega), hG 48 (by omega), hG 18 (by omega), hG 20 (by omega)]
  exact c
theorem op_forget : PairOp 1 102 229 [] := fun d h g => by
  have so := g.1.1
  unfold XSo at so
  have sw := WoS_25 g.1
  unfold WoS at sw
  obtain ⟨k8, r2, r3, r4⟩ := g.2.1.1.row
  obtain ⟨-, -, ⟨w4, w5, w6, w7, w8⟩, -, ⟨ns, n1, n2, n3⟩, rn, sl⟩ := g.2.2.2.1
  rw [E_Di_forget]
  simp (disch := omega) only [U_Di_forget (cm _), SA, SB, SC1, SC2, SG, SK, SV, so, sw, w6, true_and]
  refine ⟨_, rfl, ?_⟩
  rw [E_Mo_forget]
  simp (disch := omega) only [U_Mo_forget (cm _), SA, SB, SC1, SC2, SG, SK, SV, SM, up1_s, up1_n, k8, r2, r3, r4, nI_clamp, in_eq, Nat.reduceLeDiff, true_and]
  show Pst h (wdH h (up1 (hia h 275) 0 (nI 0)) (up1 (hfi h 25) 6 (nI 0)) (up1 (hfi h 273) 0 (nI 0)))
  refine Pst_e ?_ (KWd_wd h (up1 (hia h 275) 0 (nI 0)) (up1 (hfi h 25) 6 (nI 0)) (up1 (hfi h 273) 0 (nI 0)) (fun k hk => up1_n _ _ (by omega))).E
  obtain ⟨e1, e2, e3, e4, e5⟩ := wd_g h (up1 (hia h 275) 0 (nI 0)) (up1 (hfi h 25) 6 (nI 0)) (up1 (hfi h 273) 0 (nI 0))
  have P : ∀ y, y ≠ 0 → hia (wdH h (up1 (hia h 275) 0 (nI 0)) (up1 (hfi h 25) 6 (nI 0)) (up1 (hfi h 273) 0 (nI 0))) 275 y = hia h 275 y := fun y hy => by rw [e1, up1_n _ _ hy]
  refine GI_kw (KWd_wd h _ _ _ (fun k hk => up1_n _ _ (by omega))) g (CtV_wd (fun k hk => up1_n _ _ (by omega)) g.2.2.2.2.2.2.1) (fun y h1 _ => P y (by omega)) (fun y h1 => P y (by omega)) (P 1 (by omega)) (fun nl _ _ z => by rw [P 2 (by omega)]; exact z) ⟨?_, ?_, ?_, ?_, ?_⟩ ⟨0, by omega, by rw [e1, up1_s], fun i hi => absurd hi (Nat.not_lt_zero i)⟩ ?_ ?_
  · rw [P 1 (by omega), e2, up1_n _ _ (by omega)]; exact w4
  · rw [P 2 (by omega), e2, up1_n _ _ (by omega)]; exact w5
  · rw [e1, e2, up1_s, up1_s]
  · rw [P 3 (by omega), e2, up1_n _ _ (by omega)]; exact w7
  · rw [P 4 (by omega), e2, up1_n _ _ (by omega)]; exact w8
  · obtain ⟨md, m1, m2⟩ := rn
    exact ⟨md, m1, (P 4 (by omega)).trans m2⟩
  · obtain ⟨s, s1, s2⟩ := sl
    exact ⟨s, s1, (P 3 (by omega)).trans s2⟩
theorem n_law {p : RW} {h : MH} (w : LwV h 36 p) : ∃ nl, nl ≤ 6 ∧ p 1 = nI nl := by
  obtain ⟨nl, a, b, -⟩ := w
  exact ⟨nl, a, b⟩
/-- none, or the number of a law -/
abbrev isLw (x : Int32) (nl : Nat) : Prop := x = -1 ∨ ∃ f, f < nl ∧ x = nI f
theorem lw_lt {x : Int32} {nl : Nat} (hl : nl ≤ 6) : isLw x nl ↔ (¬ x < -1 ∧ x < nI nl) := by
  constructor
  · rintro (rfl | ⟨f, hf, rfl⟩)
    · refine ⟨by decide, ?_⟩
      rw [Int32.lt_iff_toInt_lt, nI_toInt (by omega)]
      show (-1 : Int) < _
      omega
    · refine ⟨?_, by rw [ltI (by omega) (by omega)]; exact hf⟩
      rw [Int32.lt_iff_toInt_lt, nI_toInt (by omega)]
      show ¬ (_ < (-1 : Int))
      omega
  · rintro ⟨a, b⟩
    rw [Int32.lt_iff_toInt_lt] at a
    rw [Int32.lt_iff_toInt_lt, nI_toInt (by omega)] at b
    have a' : ¬ x.toInt < -1 := a
    by_cases c : x.toInt = -1
    · left
      apply Int32.toInt_inj.mp
      rw [c]; rfl
    · right
      refine ⟨x.toInt.toNat, by omega, ?_⟩
      apply Int32.toInt_inj.mp
      rw [nI_toInt (by omega)]
      omega
theorem x_isLaw (d : Nat) (x : Int32) {nl : Nat} (hl : nl ≤ 6) {h : MH} (s : XS h) (w : hfi h 25 4 = nI nl) (Q : RT) : callD (d + 1) 116 [.ref 24, .int x] h Q = Q (some (.int (b01 (isLw x nl)))) h := by
  have so := s.1
  unfold XSo at so
  have sw := WoS_25 s
  unfold WoS at sw
  rw [E_Di_isLawOrNone]
  by_cases c : isLw x nl
  · rw [b01_t c]
    obtain ⟨a, b⟩ := (lw_lt hl).mp c
    have b' : ¬ nI nl ≤ x := Int32.not_le.mpr b
    simp (disch := omega) only [U_Di_isLawOrNone (cm _), SA, SB, SC1, SC2, SG, SK, SV, so, sw, w, a, b', true_or, or_true, true_implies, not_true_eq_false, not_false_eq_true, false_implies, true_and, and_true]
  · rw [b01_f c]
    by_cases a : x < -1
    · simp (disch := omega) only [U_Di_isLawOrNone (cm _), SA, SB, SC1, SC2, SG, SK, SV, so, sw, w, a, true_or, or_true, true_implies, not_true_eq_false, not_false_eq_true, false_implies, true_and, and_true]
    · have b' : nI nl ≤ x := Int32.not_lt.mp (fun z => c ((lw_lt hl).mpr ⟨a, z⟩))
      simp (disch := omega) only [U_Di_isLawOrNone (cm _), SA, SB, SC1, SC2, SG, SK, SV, so, sw, w, a, b', true_or, or_true, true_implies, not_true_eq_false, not_false_eq_true, false_implies, true_and, and_true]
