/-! ===== law: what a text that was read leaves alone ===== -/
def LF (h F : MH) : Prop := hsz h ≤ hsz F ∧ (∀ x, x < hsz h → hkd F x = hkd h x ∧ hln F x = hln h x ∧ hfr F x = hfr h x ∧ (x ≠ 36 → hra F x = hra h x)) ∧ (∀ x, x < hsz h → x ≠ 24 → x ≠ 25 → x ≠ 213 → x ≠ 214 → x ≠ 273 → hfi F x = hfi h x) ∧ (∀ k, k ≠ 13 → hfi F 24 k = hfi h 24 k) ∧ (∀ k, (2 ≤ k ∧ k < 13) ∨ 30 < k → hfi F 273 k = hfi h 273 k) ∧ (∀ x, x < hsz h → x ≠ 216 → x ≠ 217 → x ≠ 244 → x ≠ 274 → x ≠ 275 → (x < 283 ∨ 287 < x) → x ≠ 298 → hia F x = hia h x) ∧ ∀ a, (288 ≤ a ∧ a ≤ 290) ∨ a = 297 → hja F a = hja h a
theorem LF.trans {a b c : MH} (x : LF a b) (y : LF b c) : LF a c := by
  obtain ⟨x1, x2, x3, x4, x5, x6, x7⟩ := x
  obtain ⟨y1, y2, y3, y4, y5, y6, y7⟩ := y
  refine ⟨by omega, fun p hp => ?_, fun p q a b c d e => (y3 p (by omega) a b c d e).trans (x3 p q a b c d e), fun p q => (y4 p q).trans (x4 p q), fun p q => (y5 p q).trans (x5 p q), fun p q a b c d e f g => (y6 p (by omega) a b c d e f g).trans (x6 p q a b c d e f g), fun p q => (y7 p q).trans (x7 p q)⟩
  obtain ⟨u1, u2, u3, u4⟩ := x2 p hp
  obtain ⟨v1, v2, v3, v4⟩ := y2 p (by omega)
  exact ⟨v1.trans u1, v2.trans u2, v3.trans u3, fun z => (v4 z).trans (u4 z)⟩
theorem LF_she {h F : MH} (S : hsz F = hsz h ∧ hcc F = hcc h ∧ hcu F = hcu h ∧ SHE h F) (J : ∀ a, (288 ≤ a ∧ a ≤ 290) ∨ a = 297 → hja F a = hja h a) (fi : ∀ x, x ≠ 24 → x ≠ 25 → x ≠ 213 → x ≠ 214 → x ≠ 273 → hfi F x = hfi h x) (f24 : ∀ k, k ≠ 13 → hfi F 24 k = hfi h 24 k) (f273 : ∀ k, (2 ≤ k ∧ k < 13) ∨ 30 < k → hfi F 273 k = hfi h 273 k) (ia : ∀ x, x ≠ 216 → x ≠ 217 → x ≠ 244 → x ≠ 274 → x ≠ 275 → (x < 283 ∨ 287 < x) → x ≠ 298 → hia F x = hia h x) : LF h F :=
  ⟨by rw [S.1]; exact Nat.le_refl _, fun x _ => ⟨by rw [S.2.2.2.1], by rw [S.2.2.2.2.1], by rw [S.2.2.2.2.2.1], fun _ => by rw [S.2.2.2.2.2.2]⟩, fun x _ => fi x, f24, f273, fun x _ => ia x, J⟩
theorem XS_x {h F : MH} (K : ∀ x, x < 300 → hkd F x = hkd h x ∧ hln F x = hln h x ∧ hfr F x = hfr h x) (r41 : hra F 41 = hra h 41) (r39 : hra F 39 = hra h 39) (s : XS h) : XS F := by
  have ek : ∀ x, x < 300 → hkd F x = hkd h x := fun x hx => (K x hx).1
  have el : ∀ x, x < 300 → hln F x = hln h x := fun x hx => (K x hx).2.1
  have ef : ∀ x, x < 300 → hfr F x = hfr h x := fun x hx => (K x hx).2.2
  obtain ⟨s1, s2, s3, s4, s5, s6, s7, s8⟩ := s
  have N : ∀ n, n + 9 < 300 → NeS h n → NeS F n := fun n hn s => by
    unfold NeS AF at *
    simp (disch := omega) only [ek, el, ef]
    exact s
  have Wo : ∀ n, n + 13 < 300 → WoS h n → WoS F n := fun n hn s => by
    unfold WoS at *
    simp (disch := omega) only [ek, el, ef]
    exact s
  refine ⟨?_, ?_, ?_, ?_, ⟨Wo _ (by omega) s5.1, Wo _ (by omega) s5.2.1, Wo _ (by omega) s5.2.2⟩, ⟨N _ (by omega) s6.1, N _ (by omega) s6.2.1, N _ (by omega) s6.2.2.1, N _ (by omega) s6.2.2.2.1, N _ (by omega) s6.2.2.2.2⟩, fun i hi => ⟨N _ (by omega) (s7 i hi).1, by rw [r41]; exact (s7 i hi).2⟩, by rw [r39]; exact s8⟩
  · unfold XSo at *; simp (disch := omega) only [ek, el, ef]; exact s1
  · unfold XSr at *; simp (disch := omega) only [ek, el, ef]; exact s2
  · unfold XSh at *; simp (disch := omega) only [ek, el, ef]; exact s3
  · unfold JS at *; simp (disch := omega) only [ek, el, ef]; exact s4
theorem MoS_x {h F : MH} (K : ∀ x, x < 300 → hkd F x = hkd h x ∧ hln F x = hln h x ∧ hfr F x = hfr h x) (s : MoS h) : MoS F := by
  have ek : ∀ x, x < 300 → hkd F x = hkd h x := fun x hx => (K x hx).1
  have el : ∀ x, x < 300 → hln F x = hln h x := fun x hx => (K x hx).2.1
  have ef : ∀ x, x < 300 → hfr F x = hfr h x := fun x hx => (K x hx).2.2
  unfold MoS AF at *
  simp (disch := omega) only [ek, el, ef]
  exact s
theorem LF.KI {h F : MH} (x : LF h F) (hz : 300 ≤ hsz h) : KI h F := by
  obtain ⟨x1, x2, x3, x4, x5, x6, x7⟩ := x
  have K : ∀ x, x < 300 → hkd F x = hkd h x ∧ hln F x = hln h x ∧ hfr F x = hfr h x := fun x hx => ⟨(x2 x (by omega)).1, (x2 x (by omega)).2.1, (x2 x (by omega)).2.2.1⟩
  refine ⟨⟨x1, (K 1 (by omega)).1, (K 1 (by omega)).2.1, x6 1 (by omega) (by omega) (by omega) (by omega) (by omega) (by omega) (by omega) (by omega)⟩, fun s => XS_x K ((x2 41 (by omega)).2.2.2 (by omega)) ((x2 39 (by omega)).2.2.2 (by omega)) s, fun s => MoS_x K s, x7, ⟨x4 2 (by omega), x4 8 (by omega), x5 52 (by omega)⟩, fun a ha => x3 a (by omega) (by omega) (by omega) (by omega) (by omega) (by omega), fun a ha => x6 a (by omega) (by omega) (by omega) (by omega) (by omega) (by omega) (by omega) (by omega), ⟨(x2 256 (by omega)).2.2.2 (by omega), (x2 270 (by omega)).2.2.2 (by omega)⟩, fun x h1 h2 => ⟨(x2 x h2).1, (x2 x h2).2.1, (x2 x h2).2.2.1, x3 x h2 (by omega) (by omega) (by omega) (by omega) (by omega), x6 x h2 (by omega) (by omega) (by omega) (by omega) (by omega) (by omega) (by omega)⟩⟩
/-- behind a text that was read, the worlds and what can be taken back as they were -/
theorem GI_lf {h F : MH} (x : LF h F) (g : GI h) (W : WV F 25 (hia F 275)) (ct : CtV F) (t : ∃ T, TpV F T) : GI F := by
  have hz := g.2.2.1
  obtain ⟨nx, n, r⟩ := g.2.2.2.2.1
  obtain ⟨x1, x2, x3, x4, x5, x6, x7⟩ := id x
  exact GI_mk (x.KI hz) g W ⟨nx, n, RgV_a (x3 40 (by omega) (by omega) (by omega) (by omega) (by omega) (by omega)) (x5 8 (by omega)) (fun i hi => x3 _ (by omega) (by omega) (by omega) (by omega) (by omega) (by omega)) (fun a h1 h2 => x6 a (by omega) (by omega) (by omega) (by omega) (by omega) (by omega) (by omega) (by omega)) (x6 279 (by omega) (by omega) (by omega) (by omega) (by omega) (by omega) (by omega) (by omega)) (fun y _ => by rw [x6 278 (by omega) (by omega) (by omega) (by omega) (by omega) (by omega) (by omega) (by omega)]) r⟩ ct t
theorem WV_lf {h F : MH} (x : LF h F) (hz : 300 ≤ hsz h) (f25 : hfi F 25 = hfi h 25) (r36 : hra F 36 = hra h 36) {p : RW} (w : WV h 25 p) : WV F 25 p := by
  obtain ⟨x1, x2, x3, x4, x5, x6, x7⟩ := x
  exact WV_a x1 ⟨f25, x3 26 (by omega) (by omega) (by omega) (by omega) (by omega) (by omega)⟩ (fun a h1 h2 => x6 a (by omega) (by omega) (by omega) (by omega) (by omega) (by omega) (by omega) (by omega)) r36 (fun y h1 h2 => ⟨(x2 y h2).1, (x2 y h2).2.1, (x2 y h2).2.2.1, x3 y h2 (by omega) (by omega) (by omega) (by omega) (by omega), x6 y h2 (by omega) (by omega) (by omega) (by omega) (by omega) (by omega) (by omega)⟩) w
theorem LA_lf {h F : MH} (x : LF h F) (hz : 300 ≤ hsz h) (r36 : ∀ i, i < 6 → hra F 36 i = hra h 36 i ∨ ∃ a, hra F 36 i = some a ∧ 300 ≤ a ∧ a < hsz F ∧ hkd F a = 3) (la : LA h) : LA F := fun W hW i hi => by
  obtain ⟨x1, x2, -⟩ := x
  have old : ∀ V, (∀ j, j < 6 → hra h V j = none ∨ ∃ a, hra h V j = some a ∧ 300 ≤ a ∧ a < hsz h ∧ hkd h a = 3) → hra F V i = hra h V i → hra F V i = none ∨ ∃ a, hra F V i = some a ∧ 300 ≤ a ∧ a < hsz F ∧ hkd F a = 3 := fun V hV e => by
    rw [e]
    rcases hV i hi with z | ⟨a, z, z1, z2, z3⟩
    · exact Or.inl z
    · exact Or.inr ⟨a, z, z1, by omega, by rw [(x2 a z2).1]; exact z3⟩
  by_cases e : W = 25
  · subst e
    rcases r36 i hi with z | z
    · exact old 36 (la 25 hW) z
    · exact Or.inr z
  · exact old (W + 11) (la W hW) (by rw [(x2 (W + 11) (by omega)).2.2.2 (by omega)])
theorem TX_r {p q : RW} {f : Nat} {L : LWS} (e : ∀ x, 2022 + 900 * f ≤ x → x < 2022 + 900 * (f + 1) → q x = p x) (t : TX p f L) : TX q f L := by
  obtain ⟨t1, t2, t3, t4, l, nc, t5, t6, t7⟩ := t
  refine ⟨t1, t2, t3, (e _ (by omega) (by omega)).trans t4, l, nc, t5, fun k hk => ?_, fun i hi => ?_⟩
  · obtain ⟨o, b, o1, o2, o3, o4, o5, o6⟩ := t6 k hk
    exact ⟨o, b, o1, o2, o3, (e _ (by omega) (by omega)).trans o4, (e _ (by omega) (by omega)).trans o5, o6⟩
  · obtain ⟨c1, c2, s0, s1, u0, u1, e1, e2, e3, e4, r⟩ := t7 i hi
    exact ⟨c1, (e _ (by omega) (by omega)).trans c2, s0, s1, u0, u1, (e _ (by omega) (by omega)).trans e1, (e _ (by omega) (by omega)).trans e2, (e _ (by omega) (by omega)).trans e3, (e _ (by omega) (by omega)).trans e4, r⟩
theorem XAF.L {h h1 : MH} {n : Nat} (x : XAF h h1 n) (hz : 300 ≤ hsz h) : LF h h1 := by
  obtain ⟨⟨x1, x2, x3⟩, x4, x5⟩ := x
  exact ⟨by omega, fun y hy => ⟨(x4 y hy).1.1, (x4 y hy).1.2.1, (x4 y hy).1.2.2.1, fun _ => (x4 y hy).1.2.2.2.1⟩, fun y hy _ _ a b _ => (x4 y hy).2.1 a b, fun k _ => by rw [(x4 24 (by omega)).2.1 (by omega) (by omega)], fun k _ => by rw [(x4 273 (by omega)).2.1 (by omega) (by omega)], fun y hy a b _ _ _ _ _ => (x4 y hy).2.2 a b, fun a ha => (x4 a (by omega)).1.2.2.2.2.2⟩
theorem MLF.L {h F : MH} (x : MLF h F) : LF h F := by
  obtain ⟨⟨x1, x2, x3, x4, x5⟩, x6, x7, x8, x9⟩ := x
  exact LF_she ⟨x1, x2, x3, x4⟩ (fun a _ => by rw [x5]) (fun y _ _ _ _ a => (x6 y a).1) (fun k _ => by rw [(x6 24 (by omega)).1]) (fun k hk => x8 k (by omega)) (fun y _ _ _ a b c d => x7 y (by omega) c d)
