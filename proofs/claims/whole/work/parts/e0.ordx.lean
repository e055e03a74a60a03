/-! ===== orders: what the program leaves alone ===== -/
def XOf (h H : MH) : Prop := hsz h ≤ hsz H ∧ (∀ x, x < hsz h → hkd H x = hkd h x ∧ hln H x = hln h x ∧ hfr H x = hfr h x ∧ hra H x = hra h x) ∧ (∀ x, x < hsz h → x ≠ 24 → x ≠ 26 → (x < 40 ∨ 214 < x) → x ≠ 221 → hfi H x = hfi h x) ∧ (∀ k, k ≠ 13 → k ≠ 15 → hfi H 24 k = hfi h 24 k) ∧ (∀ x, x < hsz h → (x ≤ 26 ∨ 35 < x) → (x < 42 ∨ 212 < x) → x ≠ 216 → x ≠ 217 → x ≠ 219 → x ≠ 220 → (x ≤ 221 ∨ 230 < x) → x ≠ 243 → x ≠ 244 → hia H x = hia h x) ∧ (∀ a, (288 ≤ a ∧ a ≤ 290) ∨ a = 297 → hja H a = hja h a)
theorem XOf.trans {a b c : MH} (x : XOf a b) (y : XOf b c) : XOf a c := by
  obtain ⟨x1, x2, x3, x4, x5, x6⟩ := x
  obtain ⟨y1, y2, y3, y4, y5, y6⟩ := y
  refine ⟨by omega, fun p hp => ?_, fun p hp q1 q2 q3 q4 => (y3 p (by omega) q1 q2 q3 q4).trans (x3 p hp q1 q2 q3 q4), fun k q1 q2 => (y4 k q1 q2).trans (x4 k q1 q2), fun p hp q1 q2 q3 q4 q5 q6 q7 q8 q9 => (y5 p (by omega) q1 q2 q3 q4 q5 q6 q7 q8 q9).trans (x5 p hp q1 q2 q3 q4 q5 q6 q7 q8 q9), fun p hp => (y6 p hp).trans (x6 p hp)⟩
  obtain ⟨u1, u2, u3, u4⟩ := x2 p hp
  obtain ⟨v1, v2, v3, v4⟩ := y2 p (by omega)
  exact ⟨v1.trans u1, v2.trans u2, v3.trans u3, v4.trans u4⟩
theorem XOf_she {h F : MH} (z : hsz F = hsz h) (S : SHE h F) (J : ∀ a, (288 ≤ a ∧ a ≤ 290) ∨ a = 297 → hja F a = hja h a) (fi : ∀ x, x ≠ 24 → x ≠ 26 → (x < 40 ∨ 214 < x) → x ≠ 221 → hfi F x = hfi h x) (f24 : ∀ k, k ≠ 13 → k ≠ 15 → hfi F 24 k = hfi h 24 k) (ia : ∀ x, (x ≤ 26 ∨ 35 < x) → (x < 42 ∨ 212 < x) → x ≠ 216 → x ≠ 217 → x ≠ 219 → x ≠ 220 → (x ≤ 221 ∨ 230 < x) → x ≠ 243 → x ≠ 244 → hia F x = hia h x) : XOf h F :=
  ⟨by rw [z]; exact Nat.le_refl _, fun x _ => ⟨by rw [S.1], by rw [S.2.1], by rw [S.2.2.1], by rw [S.2.2.2]⟩, fun x _ => fi x, f24, fun x _ => ia x, J⟩
theorem AQ.X {N : Nat} (hN : N = 26 ∨ N = 221) {h H : MH} (x : AQ N h H) : XOf h H := XOf_she x.1.1 x.1.2.2.2.1 (fun a _ => by rw [x.1.2.2.2.2]) (fun a a1 a2 a3 a4 => x.2.1 a (by omega) a1 (by omega)) (fun k _ a => x.2.2.1 k a) (fun a a1 a2 a3 a4 a5 a6 a7 a8 a9 => x.2.2.2 a (by omega) a2 a5 a6 a8)
theorem XAF.X {h h1 : MH} {n : Nat} (x : XAF h h1 n) (hz : 300 ≤ hsz h) : XOf h h1 := by
  obtain ⟨⟨x1, x2, x3⟩, x4, x5⟩ := x
  exact ⟨by omega, fun y hy => ⟨(x4 y hy).1.1, (x4 y hy).1.2.1, (x4 y hy).1.2.2.1, (x4 y hy).1.2.2.2.1⟩, fun y hy _ _ a _ => (x4 y hy).2.1 (by omega) (by omega), fun k _ _ => by rw [(x4 24 (by omega)).2.1 (by omega) (by omega)], fun y hy _ _ a b _ _ _ _ _ => (x4 y hy).2.2 a b, fun a ha => (x4 a (by omega)).1.2.2.2.2.2⟩
theorem SCg.X {h F : MH} {c u : Nat} (x : SCg h F c u) : XOf h F := by
  obtain ⟨⟨x1, x2, x3, x4, x5⟩, -⟩ := x
  exact XOf_she x1 x2 (fun a _ => by rw [x5]) (fun y _ _ _ _ => by rw [x3]) (fun k _ _ => by rw [x3]) (fun y _ _ _ _ _ _ _ _ _ => by rw [x4])
theorem XOf.XS {h F : MH} (x : XOf h F) (hz : 300 ≤ hsz h) (s : XS h) : XS F := XS_x (fun y hy => ⟨(x.2.1 y (by omega)).1, (x.2.1 y (by omega)).2.1, (x.2.1 y (by omega)).2.2.1⟩) (x.2.1 41 (by omega)).2.2.2 (x.2.1 39 (by omega)).2.2.2 s
theorem XOf.MS {h F : MH} (x : XOf h F) (hz : 300 ≤ hsz h) (s : MoS h) : MoS F := MoS_x (fun y hy => ⟨(x.2.1 y (by omega)).1, (x.2.1 y (by omega)).2.1, (x.2.1 y (by omega)).2.2.1⟩) s
theorem XOf.W {h F : MH} (x : XOf h F) (hz : 300 ≤ hsz h) {p q : RW} (w : WV h 25 p) (lo : LO p q) (V : NeV F 26 q) (iv : IV q) : WV F 25 q :=
  WV_lo w lo V iv x.1 (x.2.2.1 25 (by omega) (by omega) (by omega) (by omega) (by omega)) (x.2.1 36 (by omega)).2.2.2 (x.2.2.2.2.1 37 (by omega) (by omega) (by omega) (by omega) (by omega) (by omega) (by omega) (by omega) (by omega) (by omega)) (x.2.2.2.2.1 38 (by omega) (by omega) (by omega) (by omega) (by omega) (by omega) (by omega) (by omega) (by omega) (by omega)) (fun y h1 h2 => ⟨(x.2.1 y h2).1, (x.2.1 y h2).2.1, (x.2.1 y h2).2.2.1, x.2.2.1 y h2 (by omega) (by omega) (by omega) (by omega), x.2.2.2.2.1 y h2 (by omega) (by omega) (by omega) (by omega) (by omega) (by omega) (by omega) (by omega) (by omega)⟩)
theorem MOE.X {h F : MH} (m : MOE h F) : (∀ x, x ≠ 273 → hfi F x = hfi h x) ∧ (∀ x, x < 274 ∨ 298 < x → hia F x = hia h x) := ⟨m.2.1, fun x hx => m.2.2.2.1 x (by omega) (by omega) (by omega) (by omega)⟩
theorem XO_KI {h H F : MH} (x : XOf h H) (m : MOE H F) (hz : 300 ≤ hsz h) : KI h F := by
  obtain ⟨m1, m2, m3, m4, m5⟩ := m
  have K : ∀ y, y < hsz h → hkd F y = hkd h y ∧ hln F y = hln h y ∧ hfr F y = hfr h y ∧ hra F y = hra h y := fun y hy => by
    rw [m1.2.2.2.1, m1.2.2.2.2.1, m1.2.2.2.2.2.1, m1.2.2.2.2.2.2]
    exact x.2.1 y hy
  have K3 : ∀ y, y < 300 → hkd F y = hkd h y ∧ hln F y = hln h y ∧ hfr F y = hfr h y := fun y hy => ⟨(K y (by omega)).1, (K y (by omega)).2.1, (K y (by omega)).2.2.1⟩
  have FI : ∀ y, y < hsz h → y ≠ 24 → y ≠ 26 → (y < 40 ∨ 214 < y) → y ≠ 221 → y ≠ 273 → hfi F y = hfi h y := fun y hy a1 a2 a3 a4 a5 => by rw [m2 y a5]; exact x.2.2.1 y hy a1 a2 a3 a4
  have IA : ∀ y, y < hsz h → y < 24 ∨ (231 ≤ y ∧ y ≤ 240) ∨ (245 ≤ y ∧ y ≤ 272) ∨ y = 276 ∨ y = 277 ∨ 298 < y → hia F y = hia h y := fun y hy a => by rw [m4 y (by omega) (by omega) (by omega) (by omega)]; exact x.2.2.2.2.1 y hy (by omega) (by omega) (by omega) (by omega) (by omega) (by omega) (by omega) (by omega) (by omega)
  exact ⟨⟨by rw [m1.1]; exact x.1, (K3 1 (by omega)).1, (K3 1 (by omega)).2.1, IA 1 (by omega) (by omega)⟩, XS_x K3 (K 41 (by omega)).2.2.2 (K 39 (by omega)).2.2.2, MoS_x K3, fun a ha => (m5 a ha).trans (x.2.2.2.2.2 a ha), ⟨by rw [m2 24 (by omega)]; exact x.2.2.2.1 2 (by omega) (by omega), by rw [m2 24 (by omega)]; exact x.2.2.2.1 8 (by omega) (by omega), by rw [m3 52 (by omega) (by omega), x.2.2.1 273 (by omega) (by omega) (by omega) (by omega) (by omega)]⟩, fun a ha => FI a (by omega) (by omega) (by omega) (by omega) (by omega) (by omega), fun a ha => IA a (by omega) (by omega), ⟨(K 256 (by omega)).2.2.2, (K 270 (by omega)).2.2.2⟩, fun y h1 h2 => ⟨(K y h2).1, (K y h2).2.1, (K y h2).2.2.1, FI y h2 (by omega) (by omega) (by omega) (by omega) (by omega), IA y h2 (by omega)⟩⟩
theorem Pst_ord {h H F : MH} (g : GI h) (x : XOf h H) (cc : hcc H = hcc h + 3 ∧ hcu H = hcu h + 899) (m : MOE H F) (W : WV F 25 (hia F 275)) (r : ∃ nx n, RgV F nx n) (c : CtV F) (t : ∃ T, TpV F T) : Pst h F := by
  have hz := g.2.2.1
  have K : ∀ y, y < hsz h → hkd F y = hkd h y ∧ hln F y = hln h y ∧ hra F y = hra h y := fun y hy => by
    rw [m.1.2.2.2.1, m.1.2.2.2.2.1, m.1.2.2.2.2.2.2]
    exact ⟨(x.2.1 y hy).1, (x.2.1 y hy).2.1, (x.2.1 y hy).2.2.2⟩
  refine ⟨GI_mk (XO_KI x m hz) g W r c t, ⟨by rw [m.1.2.1, cc.1]; exact Nat.le_refl _, by rw [m.1.2.2.1, cc.2]; exact Nat.le_refl _⟩, (K 0 (by omega)).1, (K 0 (by omega)).2.1, ?_, fun la V hV i hi => ?_⟩
  · rw [m.X.2 0 (by omega)]
    exact x.2.2.2.2.1 0 (by omega) (by omega) (by omega) (by omega) (by omega) (by omega) (by omega) (by omega) (by omega) (by omega)
  · have zF : hsz h ≤ hsz F := by rw [m.1.1]; exact x.1
    rw [(K (V + 11) (by omega)).2.2]
    rcases la V hV i hi with z | ⟨a, z, z1, z2, z3⟩
    · exact Or.inl z
    · exact Or.inr ⟨a, z, z1, by omega, by rw [(K a z2).1]; exact z3⟩
theorem PXg_a {h h' : MH} {a om : Nat} {cs : List CLA} (e : ∀ x, a ≤ x → x ≤ a + 2 → hkd h' x = hkd h x ∧ hln h' x = hln h x ∧ hfr h' x = hfr h x ∧ hfi h' x = hfi h x ∧ hia h' x = hia h x) (x : PXg h a om cs) : PXg h' a om cs := by
  obtain ⟨N, s, t⟩ := x
  obtain ⟨a1, a2, a3, a4, a5⟩ := e a (by omega) (by omega)
  obtain ⟨b1, b2, b3, b4, b5⟩ := e (a + 1) (by omega) (by omega)
  obtain ⟨c1, c2, c3, c4, c5⟩ := e (a + 2) (by omega) (by omega)
  refine ⟨N, ?_, by rw [b5, c5]; exact t⟩
  unfold PXs at *
  rw [a1, a3, a4, b1, b2, c1, c2]
  exact s
theorem XOf.P {h F : MH} (x : XOf h F) {a om : Nat} {cs : List CLA} (ha : 300 ≤ a) (h2 : a + 2 < hsz h) (p : PXg h a om cs) : PXg F a om cs := PXg_a (fun y h1 h2' => ⟨(x.2.1 y (by omega)).1, (x.2.1 y (by omega)).2.1, (x.2.1 y (by omega)).2.2.1, x.2.2.1 y (by omega) (by omega) (by omega) (by omega) (by omega), x.2.2.2.2.1 y (by omega) (by omega) (by omega) (by omega) (by omega) (by omega) (by omega) (by omega) (by omega) (by omega)⟩) p
