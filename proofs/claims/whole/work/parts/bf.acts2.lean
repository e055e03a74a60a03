/-! ===== the relation behind an act ===== -/
theorem RgV_keep {h h' : MH} {nx n : Nat} (e1 : hfi h' 40 = hfi h 40) (e2 : hfi h' 273 8 = hfi h 273 8) (eo : ∀ i, i < 17 → i ≠ nx → hfi h' (43 + 10 * i) = hfi h (43 + 10 * i) ∧ ∀ a, 43 + 10 * i < a → a ≤ 43 + 10 * i + 9 → hia h' a = hia h a) (e42 : hia h' 42 = hia h 42) (e5 : hia h' 279 = hia h 279) (e6 : ∀ x, x < 27984 → hia h' 278 x = hia h 278 x) (r : RgV h nx n) : RgV h' nx n := by
  obtain ⟨r1, r2, r3, r4, r5, r6⟩ := r
  refine ⟨r1, r2, by rw [e1]; exact r3, by rw [e1]; exact r4, e2.trans r5, fun j hj => ?_⟩
  obtain ⟨x1, x2, x3, x4⟩ := r6 j hj
  have ne : rgP nx n j ≠ nx := by unfold rgP; omega
  have c := uR_c (j := j) (by omega) e6
  obtain ⟨o1, o2⟩ := eo _ (rgP_lt nx n j) ne
  exact ⟨NeV_a o1 o2 (NeV_c c x2.q x1), IV_c c x2, by rw [e42, e5]; exact x3, by rw [e5]; exact x4⟩
theorem GI_act {h h5 : MH} {nx : Nat} (hnx : nx < 17) {p q : RW} (g : GI h) (hp : hia h 275 = p) (S : hsz h5 = hsz h ∧ SHE h h5) (F : ∀ a, a ≠ 24 → a ≠ 26 → a ≠ 40 → a ≠ 273 → a ≠ 43 + 10 * nx → hfi h5 a = hfi h a) (F24 : hfi h5 24 2 = hfi h 24 2 ∧ hfi h5 24 8 = hfi h 24 8) (F273 : hfi h5 273 13 = hfi h 273 13 ∧ hfi h5 273 52 = hfi h 273 52) (C : ∀ a, (a ≤ 26 ∨ 35 < a) → (a ≤ 43 + 10 * nx ∨ 43 + 10 * nx + 9 < a) → a ≠ 42 → a ≠ 219 → a ≠ 220 → a ≠ 244 → a ≠ 274 → a ≠ 275 → a ≠ 278 → a ≠ 279 → hia h5 a = hia h a) (J : ∀ a, (288 ≤ a ∧ a ≤ 290) ∨ a = 297 → hja h5 a = hja h a) (q0 : hia h5 275 = q) (V : NeV h5 26 q) (ivq : IV q) (lo : LO p q) (r : ∃ nx n, RgV h5 nx n) (c : CtV h5) : GI h5 := by
  obtain ⟨S1, S2⟩ := S
  have C2 : ∀ a, 213 ≤ a → a ≠ 219 → a ≠ 220 → a ≠ 244 → a ≠ 274 → a ≠ 275 → a ≠ 278 → a ≠ 279 → hia h5 a = hia h a := fun a h1 h2 h3 h4 h5' h6 h7 h8 => C a (by omega) (by omega) (by omega) h2 h3 h4 h5' h6 h7 h8
  have F2 : ∀ a, 213 ≤ a → a ≠ 273 → hfi h5 a = hfi h a := fun a h1 h2 => F a (by omega) (by omega) (by omega) h2 (by omega)
  refine GI_mk (KI_e S1 S2 J ⟨F24.1, F24.2, F273.2⟩ (fun a ha => F2 a (by omega) (by omega)) (fun a ha => ?_)) g ?_ r c ?_
  · by_cases a1 : a = 1
    · subst a1
      exact C 1 (by omega) (by omega) (by omega) (by omega) (by omega) (by omega) (by omega) (by omega) (by omega) (by omega)
    · exact C2 a (by omega) (by omega) (by omega) (by omega) (by omega) (by omega) (by omega) (by omega)
  · rw [q0]
    obtain ⟨-, -, ⟨w4, w5, w6, w7, w8⟩, ⟨nl, l1, l2, l3, l4⟩, ⟨ns, s1, s2, s3⟩, ⟨md, m1, m2⟩, ⟨sl, y1, y2⟩⟩ := g.2.2.2.1
    rw [hp] at w4 w5 w6 w7 w8 l2 l3 l4 s2 s3 m2 y2
    have f25 : hfi h5 25 = hfi h 25 := F 25 (by omega) (by omega) (by omega) (by omega) (by omega)
    have L : ∀ j, j < 5 ∨ 2010 ≤ j → q j = p j := lo
    refine ⟨V, ivq, ?_, ⟨nl, l1, (L 1 (by omega)).trans l2, by rw [L 2 (by omega)]; exact l3, fun i hi => ?_⟩, ⟨ns, s1, (L 0 (by omega)).trans s2, fun i hi => ?_⟩, ⟨md, m1, (L 4 (by omega)).trans m2⟩, ⟨sl, y1, (L 3 (by omega)).trans y2⟩⟩
    · rw [f25, L 0 (by omega), L 1 (by omega), L 2 (by omega), L 3 (by omega), L 4 (by omega)]
      exact ⟨w4, w5, w6, w7, w8⟩
    · obtain ⟨a, L', z1, z2, z3, z4, z5⟩ := l4 i hi
      exact ⟨a, L', by rw [S2.2.2.2]; exact z1, z2, by omega, PXh_a (fun x h1 _ => ⟨by rw [S2.1], by rw [S2.2.1], by rw [S2.2.2.1], F2 x (by omega) (by omega), C2 x (by omega) (by omega) (by omega) (by omega) (by omega) (by omega) (by omega) (by omega)⟩) z4, TX_c (fun x hx => L x (by omega)) z5⟩
    · have c37 : hia h5 (25 + 12) = hia h (25 + 12) := C 37 (by omega) (by omega) (by omega) (by omega) (by omega) (by omega) (by omega) (by omega) (by omega) (by omega)
      have c38 : hia h5 (25 + 13) = hia h (25 + 13) := C 38 (by omega) (by omega) (by omega) (by omega) (by omega) (by omega) (by omega) (by omega) (by omega) (by omega)
      rw [c37, c38, L _ (by omega), L _ (by omega)]
      exact s3 i hi
  · obtain ⟨T, t⟩ := g.2.2.2.2.2.2.2.1
    refine ⟨T, ?_⟩
    unfold TpV at *
    rw [C2 215 (by omega) (by omega) (by omega) (by omega) (by omega) (by omega) (by omega) (by omega), C2 282 (by omega) (by omega) (by omega) (by omega) (by omega) (by omega) (by omega) (by omega), F2 214 (by omega) (by omega), F273.1]
    exact t
