/-! ===== the reference's reckonAll ===== -/
/-- only what reckonAll writes was changed -/
def MJ (h h' : MH) : Prop := (hsz h' = hsz h ∧ hcc h' = hcc h ∧ hcu h' = hcu h ∧ hkd h' = hkd h ∧ hln h' = hln h ∧ hfr h' = hfr h ∧ hia h' = hia h ∧ hra h' = hra h) ∧ (∀ a k, (a ≠ 273 ∨ k ≠ 38) → hfi h' a k = hfi h a k) ∧ (∀ a k, (a ≠ 273 ∨ k ≠ 39) → hfj h' a k = hfj h a k) ∧ (∀ a, a ≠ 293 → hja h' a = hja h a)
theorem MJ.S {h h' : MH} (m : MJ h h') (s : MoS h) : MoS h' := by
  obtain ⟨⟨-, -, -, e1, e2, e3, -⟩, -⟩ := m
  unfold MoS AF at *
  rw [e1, e2, e3]
  exact s
def dM (om o b : Nat) : Nat × Nat := if o = 0 then (1, b) else if o < 20 then (2, if om = 0 then o - 1 else if o = 1 then 5 else if o = 2 then 7 else if o = 3 then 8 else if o = 4 then 4 else if o = 5 then 9 + b else 16 + b) else if o < 28 then (o - 14, b) else if o = 28 then (3, b) else if o = 29 then (5, b) else (4, b)
def mcode (h : MH) (om lb k o b : Nat) : Prop := k < 400 ∧ ((om = 1 ∧ hia h 284 k = nI o ∧ hia h 285 k = nI b) ∨ (om = 0 ∧ hia h 275 (lb + 98 + 2 * k) = nI o ∧ hia h 275 (lb + 98 + 2 * k + 1) = nI b))
def MC (h : MH) (om lb : Nat) (ins : INS) (i j : Nat) : Prop := ∀ k, i ≤ k → k < j → ∃ o b, o ≤ 30 ∧ b ≤ 1000 ∧ (0 < o → o < 20 → (om = 0 → o ≤ 7) ∧ (om = 1 → o ≤ 6 ∧ b ≤ 6)) ∧ mcode h om lb k o b ∧ ins k = dM om o b
def ME (h : MH) (om : Nat) (e : EV) : Prop := (om = 0 → ∀ k, k < 7 → hja h 291 (k + 1) = jI (e k)) ∧ (om = 1 → (hja h 292 1 = jI (e 5) ∧ hja h 292 2 = jI (e 7) ∧ hja h 292 3 = jI (e 8) ∧ hja h 292 4 = jI (e 4)) ∧ ∀ r, r < 7 → hia h 275 (105 + 7 * r) = iI (e (9 + r)) ∧ hia h 275 (105 + 7 * r + 3) = iI (e (16 + r)))
def StJ (f : Nat → Int64) : List Int → Prop
  | [] => True
  | x :: r => f r.length = jI x ∧ StJ f r
theorem StJ_up {f : Nat → Int64} {k : Nat} {x : Int64} : ∀ {s : List Int}, StJ f s → s.length ≤ k → StJ (up1 f k x) s
  | [], _, _ => trivial
  | y :: r, h, hk => ⟨by rw [up1_n _ _ (by rw [List.length_cons] at hk; omega)]; exact h.1, StJ_up h.2 (by rw [List.length_cons] at hk; omega)⟩
theorem MoS.jud {h : MH} (hM : MoS h) : hkd h 273 = 8 ∧ hfr h 273 3 = some 275 ∧ hkd h 275 = 20 ∧ hln h 275 = 7422 ∧ hfr h 273 24 = some 284 ∧ hkd h 284 = 20 ∧ hln h 284 = 400 ∧ hfr h 273 25 = some 285 ∧ hkd h 285 = 20 ∧ hln h 285 = 400 ∧ hfr h 273 35 = some 291 ∧ hkd h 291 = 21 ∧ hln h 291 = 13 ∧ hfr h 273 36 = some 292 ∧ hkd h 292 = 21 ∧ hln h 292 = 13 ∧ hfr h 273 37 = some 293 ∧ hkd h 293 = 21 ∧ hln h 293 = 400 := by
  obtain ⟨a, -, ⟨b1, b2, b3⟩, -, -, -, -, -, -, -, -, ⟨c1, c2, c3⟩, ⟨d1, d2, d3⟩, -, -, -, -, -, ⟨e1, e2, e3⟩, ⟨f1, f2, f3⟩, ⟨g1, g2, g3⟩, -⟩ := hM
  exact ⟨a, b1, b2, b3, c1, c2, c3, d1, d2, d3, e1, e2, e3, f1, f2, f3, g1, g2, g3⟩
set_option maxRecDepth 20000 in
theorem UC_Mo_reckonAll_97 {G : GT} (hG : Gmono G) (R : RT) (lm : Nat × Nat) : WP cd_Mo_reckonAll G R lm 0 = stp G R lm (2, 1, 0, 0, 0, 0, []) (WP cd_Mo_reckonAll G R lm) ∧ WP cd_Mo_reckonAll G R lm 1 = stp G R lm (7, 2, 0, 0, nI 0, 0, []) (WP cd_Mo_reckonAll G R lm) ∧ WP cd_Mo_reckonAll G R lm 2 = stp G R lm (85, 5, 8, 38, 0, 0, []) (WP cd_Mo_reckonAll G R lm) ∧ WP cd_Mo_reckonAll G R lm 5 = stp G R lm (7, 6, 0, 0, nI 0, 0, []) (WP cd_Mo_reckonAll G R lm) ∧ WP cd_Mo_reckonAll G R lm 6 = stp G R lm (4, 7, 3, 0, 0, 0, []) (WP cd_Mo_reckonAll G R lm) ∧ WP cd_Mo_reckonAll G R lm 7 = stp G R lm (1, 8, 1, 0, 0, 0, []) (WP cd_Mo_reckonAll G R lm) ∧ WP cd_Mo_reckonAll G R lm 8 = stp G R lm (4, 10, 4, 0, 0, 0, []) (WP cd_Mo_reckonAll G R lm) ∧ WP cd_Mo_reckonAll G R lm 12 = stp G R lm (1, 13, 2, 0, 0, 0, []) (WP cd_Mo_reckonAll G R lm) ∧ WP cd_Mo_reckonAll G R lm 13 = stp G R lm (44, 16, 328, 0, 0, 0, []) (WP cd_Mo_reckonAll G R lm) ∧ WP cd_Mo_reckonAll G R lm 16 = stp G R lm (2, 17, 0, 0, 0, 0, []) (WP cd_Mo_reckonAll G R lm) ∧ WP cd_Mo_reckonAll G R lm 17 = stp G R lm (56, 20, 8, 38, 0, 0, []) (WP cd_Mo_reckonAll G R lm) ∧ WP cd_Mo_reckonAll G R lm 20 = stp G R lm (48, 23, 328, 0, 0, 0, []) (WP cd_Mo_reckonAll G R lm) ∧ WP cd_Mo_reckonAll G R lm 23 = stp G R lm (2, 24, 0, 0, 0, 0, []) (WP cd_Mo_reckonAll G R lm) ∧ WP cd_Mo_reckonAll G R lm 24 = stp G R lm (56, 27, 8, 20, 0, 0, []) (WP cd_Mo_reckonAll G R lm) ∧ WP cd_Mo_reckonAll G R lm 27 = stp G R lm (47, 30, 40, 0, 0, 0, []) (WP cd_Mo_reckonAll G R lm) ∧ WP cd_Mo_reckonAll G R lm 30 = stp G R lm (2, 31, 0, 0, 0, 0, []) (WP cd_Mo_reckonAll G R lm) ∧ WP cd_Mo_reckonAll G R lm 31 = stp G R lm (58, 34, 8, 24, 0, 0, []) (WP cd_Mo_reckonAll G R lm) ∧ WP cd_Mo_reckonAll G R lm 34 = stp G R lm (1, 36, 4, 0, 0, 0, []) (WP cd_Mo_reckonAll G R lm) ∧ WP cd_Mo_reckonAll G R lm 36 = stp G R lm (62, 37, 0, 0, 0, 0, []) (WP cd_Mo_reckonAll G R lm) ∧ WP cd_Mo_reckonAll G R lm 37 = stp G R lm (40, 57, 0, 0, 0, 0, []) (WP cd_Mo_reckonAll G R lm) ∧ WP cd_Mo_reckonAll G R lm 40 = stp G R lm (2, 41, 0, 0, 0, 0, []) (WP cd_Mo_reckonAll G R lm) ∧ WP cd_Mo_reckonAll G R lm 41 = stp G R lm (58, 44, 8, 3, 0, 0, []) (WP cd_Mo_reckonAll G R lm) ∧ WP cd_Mo_reckonAll G R lm 44 = stp G R lm (2, 45, 0, 0, 0, 0, []) (WP cd_Mo_reckonAll G R lm) ∧ WP cd_Mo_reckonAll G R lm 45 = stp G R lm (56, 48, 8, 34, 0, 0, []) (WP cd_Mo_reckonAll G R lm) ∧ WP cd_Mo_reckonAll G R lm 48 = stp G R lm (7, 50, 0, 0, nI 98, 0, []) (WP cd_Mo_reckonAll G R lm) ∧ WP cd_Mo_reckonAll G R lm 50 = stp G R lm (12, 51, 0, 0, 0, 0, []) (WP cd_Mo_reckonAll G R lm) ∧ WP cd_Mo_reckonAll G R lm 51 = stp G R lm (7, 52, 0, 0, nI 2, 0, []) (WP cd_Mo_reckonAll G R lm) ∧ WP cd_Mo_reckonAll G R lm 52 = stp G R lm (1, 54, 4, 0, 0, 0, []) (WP cd_Mo_reckonAll G R lm) ∧ WP cd_Mo_reckonAll G R lm 54 = stp G R lm (14, 55, 0, 0, 0, 0, []) (WP cd_Mo_reckonAll G R lm) ∧ WP cd_Mo_reckonAll G R lm 55 = stp G R lm (12, 56, 0, 0, 0, 0, []) (WP cd_Mo_reckonAll G R lm) ∧ WP cd_Mo_reckonAll G R lm 56 = stp G R lm (62, 57, 0, 0, 0, 0, []) (WP cd_Mo_reckonAll G R lm) ∧ WP cd_Mo_reckonAll G R lm 57 = stp G R lm (4, 59, 5, 0, 0, 0, []) (WP cd_Mo_reckonAll G R lm) ∧ WP cd_Mo_reckonAll G R lm 59 = stp G R lm (2, 60, 0, 0, 0, 0, []) (WP cd_Mo_reckonAll G R lm) ∧ WP cd_Mo_reckonAll G R lm 60 = stp G R lm (56, 63, 8, 20, 0, 0, []) (WP cd_Mo_reckonAll G R lm) ∧ WP cd_Mo_reckonAll G R lm 63 = stp G R lm (47, 66, 76, 0, 0, 0, []) (WP cd_Mo_reckonAll G R lm) ∧ WP cd_Mo_reckonAll G R lm 66 = stp G R lm (2, 67, 0, 0, 0, 0, []) (WP cd_Mo_reckonAll G R lm) ∧ WP cd_Mo_reckonAll G R lm 67 = stp G R lm (58, 70, 8, 25, 0, 0, []) (WP cd_Mo_reckonAll G R lm) ∧ WP cd_Mo_reckonAll G R lm 70 = stp G R lm (1, 72, 4, 0, 0, 0, []) (WP cd_Mo_reckonAll G R lm) ∧ WP cd_Mo_reckonAll G R lm 72 = stp G R lm (62, 73, 0, 0, 0, 0, []) (WP cd_Mo_reckonAll G R lm) ∧ WP cd_Mo_reckonAll G R lm 73 = stp G R lm (40, 95, 0, 0, 0, 0, []) (WP cd_Mo_reckonAll G R lm) ∧ WP cd_Mo_reckonAll G R lm 76 = stp G R lm (2, 77, 0, 0, 0, 0, []) (WP cd_Mo_reckonAll G R lm) ∧ WP cd_Mo_reckonAll G R lm 77 = stp G R lm (58, 80, 8, 3, 0, 0, []) (WP cd_Mo_reckonAll G R lm) ∧ WP cd_Mo_reckonAll G R lm 80 = stp G R lm (2, 81, 0, 0, 0, 0, []) (WP cd_Mo_reckonAll G R lm) ∧ WP cd_Mo_reckonAll G R lm 81 = stp G R lm (56, 84, 8, 34, 0, 0, []) (WP cd_Mo_reckonAll G R lm) ∧ WP cd_Mo_reckonAll G R lm 84 = stp G R lm (7, 86, 0, 0, nI 98, 0, []) (WP cd_Mo_reckonAll G R lm) ∧ WP cd_Mo_reckonAll G R lm 86 = stp G R lm (12, 87, 0, 0, 0, 0, []) (WP cd_Mo_reckonAll G R lm) ∧ WP cd_Mo_reckonAll G R lm 87 = stp G R lm (7, 88, 0, 0, nI 2, 0, []) (WP cd_Mo_reckonAll G R lm) ∧ WP cd_Mo_reckonAll G R lm 88 = stp G R lm (1, 90, 4, 0, 0, 0, []) (WP cd_Mo_reckonAll G R lm) ∧ WP cd_Mo_reckonAll G R lm 90 = stp G R lm (14, 91, 0, 0, 0, 0, []) (WP cd_Mo_reckonAll G R lm) ∧ WP cd_Mo_reckonAll G R lm 91 = stp G R lm (12, 92, 0, 0, 0, 0, []) (WP cd_Mo_reckonAll G R lm) ∧ WP cd_Mo_reckonAll G R lm 92 = stp G R lm (7, 93, 0, 0, nI 1, 0, []) (WP cd_Mo_reckonAll G R lm) ∧ WP cd_Mo_reckonAll G R lm 93 = stp G R lm (12, 94, 0, 0, 0, 0, []) (WP cd_Mo_reckonAll G R lm) ∧ WP cd_Mo_reckonAll G R lm 94 = stp G R lm (62, 95, 0, 0, 0, 0, []) (WP cd_Mo_reckonAll G R lm) ∧ WP cd_Mo_reckonAll G R lm 95 = stp G R lm (4, 97, 6, 0, 0, 0, []) (WP cd_Mo_reckonAll G R lm) ∧ WP cd_Mo_reckonAll G R lm 100 = stp G R lm (1, 102, 5, 0, 0, 0, []) (WP cd_Mo_reckonAll G R lm) ∧ WP cd_Mo_reckonAll G R lm 102 = stp G R lm (7, 104, 0, 0, nI 20, 0, []) (WP cd_Mo_reckonAll G R lm) ∧ WP cd_Mo_reckonAll G R lm 104 = stp G R lm (44, 107, 186, 0, 0, 0, []) (WP cd_Mo_reckonAll G R lm) ∧ WP cd_Mo_reckonAll G R lm 107 = stp G R lm (2, 108, 0, 0, 0, 0, []) (WP cd_Mo_reckonAll G R lm) ∧ WP cd_Mo_reckonAll G R lm 108 = stp G R lm (58, 111, 8, 37, 0, 0, []) (WP cd_Mo_reckonAll G R lm) ∧ WP cd_Mo_reckonAll G R lm 111 = stp G R lm (1, 112, 3, 0, 0, 0, []) (WP cd_Mo_reckonAll G R lm) ∧ WP cd_Mo_reckonAll G R lm 112 = stp G R lm (1, 114, 5, 0, 0, 0, []) (WP cd_Mo_reckonAll G R lm) ∧ WP cd_Mo_reckonAll G R lm 114 = stp G R lm (48, 117, 123, 0, 0, 0, []) (WP cd_Mo_reckonAll G R lm) ∧ WP cd_Mo_reckonAll G R lm 117 = stp G R lm (1, 119, 6, 0, 0, 0, []) (WP cd_Mo_reckonAll G R lm) ∧ WP cd_Mo_reckonAll G R lm 119 = stp G R lm (33, 120, 0, 0, 0, 0, []) (WP cd_Mo_reckonAll G R lm) ∧ WP cd_Mo_reckonAll G R lm 120 = stp G R lm (40, 179, 0, 0, 0, 0, []) (WP cd_Mo_reckonAll G R lm) ∧ WP cd_Mo_reckonAll G R lm 123 = stp G R lm (2, 124, 0, 0, 0, 0, []) (WP cd_Mo_reckonAll G R lm) ∧ WP cd_Mo_reckonAll G R lm 124 = stp G R lm (56, 127, 8, 20, 0, 0, []) (WP cd_Mo_reckonAll G R lm) ∧ WP cd_Mo_reckonAll G R lm 127 = stp G R lm (48, 130, 140, 0, 0, 0, []) (WP cd_Mo_reckonAll G R lm) ∧ WP cd_Mo_reckonAll G R lm 130 = stp G R lm (2, 131, 0, 0, 0, 0, []) (WP cd_Mo_reckonAll G R lm) ∧ WP cd_Mo_reckonAll G R lm 131 = stp G R lm (58, 134, 8, 35, 0, 0, []) (WP cd_Mo_reckonAll G R lm) ∧ WP cd_Mo_reckonAll G R lm 134 = stp G R lm (1, 136, 5, 0, 0, 0, []) (WP cd_Mo_reckonAll G R lm) ∧ WP cd_Mo_reckonAll G R lm 136 = stp G R lm (64, 137, 0, 0, 0, 0, []) (WP cd_Mo_reckonAll G R lm) ∧ WP cd_Mo_reckonAll G R lm 137 = stp G R lm (40, 179, 0, 0, 0, 0, []) (WP cd_Mo_reckonAll G R lm) ∧ WP cd_Mo_reckonAll G R lm 140 = stp G R lm (1, 142, 5, 0, 0, 0, []) (WP cd_Mo_reckonAll G R lm) ∧ WP cd_Mo_reckonAll G R lm 142 = stp G R lm (7, 143, 0, 0, nI 5, 0, []) (WP cd_Mo_reckonAll G R lm) ∧ WP cd_Mo_reckonAll G R lm 143 = stp G R lm (44, 146, 156, 0, 0, 0, []) (WP cd_Mo_reckonAll G R lm) ∧ WP cd_Mo_reckonAll G R lm 146 = stp G R lm (2, 147, 0, 0, 0, 0, []) (WP cd_Mo_reckonAll G R lm) ∧ WP cd_Mo_reckonAll G R lm 147 = stp G R lm (58, 150, 8, 36, 0, 0, []) (WP cd_Mo_reckonAll G R lm) ∧ WP cd_Mo_reckonAll G R lm 150 = stp G R lm (1, 152, 5, 0, 0, 0, []) (WP cd_Mo_reckonAll G R lm) ∧ WP cd_Mo_reckonAll G R lm 152 = stp G R lm (64, 153, 0, 0, 0, 0, []) (WP cd_Mo_reckonAll G R lm) ∧ WP cd_Mo_reckonAll G R lm 153 = stp G R lm (40, 179, 0, 0, 0, 0, []) (WP cd_Mo_reckonAll G R lm) ∧ WP cd_Mo_reckonAll G R lm 156 = stp G R lm (2, 157, 0, 0, 0, 0, []) (WP cd_Mo_reckonAll G R lm) ∧ WP cd_Mo_reckonAll G R lm 157 = stp G R lm (58, 160, 8, 3, 0, 0, []) (WP cd_Mo_reckonAll G R lm) ∧ WP cd_Mo_reckonAll G R lm 160 = stp G R lm (1, 162, 6, 0, 0, 0, []) (WP cd_Mo_reckonAll G R lm) ∧ WP cd_Mo_reckonAll G R lm 162 = stp G R lm (76, 165, 142, 1, 0, 0, []) (WP cd_Mo_reckonAll G R lm) ∧ WP cd_Mo_reckonAll G R lm 165 = stp G R lm (1, 167, 5, 0, 0, 0, []) (WP cd_Mo_reckonAll G R lm) ∧ WP cd_Mo_reckonAll G R lm 167 = stp G R lm (7, 168, 0, 0, nI 5, 0, []) (WP cd_Mo_reckonAll G R lm) ∧ WP cd_Mo_reckonAll G R lm 168 = stp G R lm (42, 171, 175, 0, 0, 0, []) (WP cd_Mo_reckonAll G R lm) ∧ WP cd_Mo_reckonAll G R lm 171 = stp G R lm (7, 172, 0, 0, nI 0, 0, []) (WP cd_Mo_reckonAll G R lm) ∧ WP cd_Mo_reckonAll G R lm 172 = stp G R lm (40, 176, 0, 0, 0, 0, []) (WP cd_Mo_reckonAll G R lm) ∧ WP cd_Mo_reckonAll G R lm 175 = stp G R lm (7, 176, 0, 0, nI 3, 0, []) (WP cd_Mo_reckonAll G R lm) ∧ WP cd_Mo_reckonAll G R lm 176 = stp G R lm (12, 177, 0, 0, 0, 0, []) (WP cd_Mo_reckonAll G R lm) ∧ WP cd_Mo_reckonAll G R lm 177 = stp G R lm (62, 178, 0, 0, 0, 0, []) (WP cd_Mo_reckonAll G R lm) ∧ WP cd_Mo_reckonAll G R lm 178 = stp G R lm (33, 179, 0, 0, 0, 0, []) (WP cd_Mo_reckonAll G R lm) ∧ WP cd_Mo_reckonAll G R lm 179 = stp G R lm (68, 180, 0, 0, 0, 0, []) (WP cd_Mo_reckonAll G R lm) ∧ WP cd_Mo_reckonAll G R lm 180 = stp G R lm (11, 183, 3, 0, nI 1, 0, []) (WP cd_Mo_reckonAll G R lm) ∧ WP cd_Mo_reckonAll G R lm 183 = stp G R lm (40, 325, 0, 0, 0, 0, []) (WP cd_Mo_reckonAll G R lm) ∧ WP cd_Mo_reckonAll G R lm 186 = stp G R lm (1, 188, 5, 0, 0, 0, []) (WP cd_Mo_reckonAll G R lm) ∧ WP cd_Mo_reckonAll G R lm 188 = stp G R lm (7, 190, 0, 0, nI 28, 0, []) (WP cd_Mo_reckonAll G R lm) ∧ WP cd_Mo_reckonAll G R lm 190 = stp G R lm (44, 193, 263, 0, 0, 0, []) (WP cd_Mo_reckonAll G R lm) ∧ WP cd_Mo_reckonAll G R lm 193 = stp G R lm (11, 196, 3, 0, (-1), 0, []) (WP cd_Mo_reckonAll G R lm) ∧ WP cd_Mo_reckonAll G R lm 196 = stp G R lm (2, 197, 0, 0, 0, 0, []) (WP cd_Mo_reckonAll G R lm) ∧ WP cd_Mo_reckonAll G R lm 197 = stp G R lm (58, 200, 8, 37, 0, 0, []) (WP cd_Mo_reckonAll G R lm) ∧ WP cd_Mo_reckonAll G R lm 200 = stp G R lm (1, 201, 3, 0, 0, 0, []) (WP cd_Mo_reckonAll G R lm) ∧ WP cd_Mo_reckonAll G R lm 201 = stp G R lm (7, 202, 0, 0, nI 1, 0, []) (WP cd_Mo_reckonAll G R lm) ∧ WP cd_Mo_reckonAll G R lm 202 = stp G R lm (13, 203, 0, 0, 0, 0, []) (WP cd_Mo_reckonAll G R lm) ∧ WP cd_Mo_reckonAll G R lm 203 = stp G R lm (2, 204, 0, 0, 0, 0, []) (WP cd_Mo_reckonAll G R lm) ∧ WP cd_Mo_reckonAll G R lm 204 = stp G R lm (1, 206, 5, 0, 0, 0, []) (WP cd_Mo_reckonAll G R lm) ∧ WP cd_Mo_reckonAll G R lm 206 = stp G R lm (2, 207, 0, 0, 0, 0, []) (WP cd_Mo_reckonAll G R lm) ∧ WP cd_Mo_reckonAll G R lm 207 = stp G R lm (58, 210, 8, 37, 0, 0, []) (WP cd_Mo_reckonAll G R lm) ∧ WP cd_Mo_reckonAll G R lm 210 = stp G R lm (1, 211, 3, 0, 0, 0, []) (WP cd_Mo_reckonAll G R lm) ∧ WP cd_Mo_reckonAll G R lm 211 = stp G R lm (7, 212, 0, 0, nI 1, 0, []) (WP cd_Mo_reckonAll G R lm) ∧ WP cd_Mo_reckonAll G R lm 212 = stp G R lm (13, 213, 0, 0, 0, 0, []) (WP cd_Mo_reckonAll G R lm) ∧ WP cd_Mo_reckonAll G R lm 213 = stp G R lm (64, 214, 0, 0, 0, 0, []) (WP cd_Mo_reckonAll G R lm) ∧ WP cd_Mo_reckonAll G R lm 214 = stp G R lm (2, 215, 0, 0, 0, 0, []) (WP cd_Mo_reckonAll G R lm) ∧ WP cd_Mo_reckonAll G R lm 215 = stp G R lm (58, 218, 8, 37, 0, 0, []) (WP cd_Mo_reckonAll G R lm) ∧ WP cd_Mo_reckonAll G R lm 218 = stp G R lm (1, 219, 3, 0, 0, 0, []) (WP cd_Mo_reckonAll G R lm) ∧ WP cd_Mo_reckonAll G R lm 219 = stp G R lm (64, 220, 0, 0, 0, 0, []) (WP cd_Mo_reckonAll G R lm) ∧ WP cd_Mo_reckonAll G R lm 220 = stp G R lm (86, 223, 193, 3, 0, 0, [8]) (WP cd_Mo_reckonAll G R lm) ∧ WP cd_Mo_reckonAll G R lm 223 = stp G R lm (68, 224, 0, 0, 0, 0, []) (WP cd_Mo_reckonAll G R lm) ∧ WP cd_Mo_reckonAll G R lm 224 = stp G R lm (2, 225, 0, 0, 0, 0, []) (WP cd_Mo_reckonAll G R lm) ∧ WP cd_Mo_reckonAll G R lm 225 = stp G R lm (2, 226, 0, 0, 0, 0, []) (WP cd_Mo_reckonAll G R lm) ∧ WP cd_Mo_reckonAll G R lm 226 = stp G R lm (56, 229, 8, 38, 0, 0, []) (WP cd_Mo_reckonAll G R lm) ∧ WP cd_Mo_reckonAll G R lm 229 = stp G R lm (48, 232, 252, 0, 0, 0, []) (WP cd_Mo_reckonAll G R lm) ∧ WP cd_Mo_reckonAll G R lm 232 = stp G R lm (2, 233, 0, 0, 0, 0, []) (WP cd_Mo_reckonAll G R lm) ∧ WP cd_Mo_reckonAll G R lm 233 = stp G R lm (58, 236, 8, 37, 0, 0, []) (WP cd_Mo_reckonAll G R lm) ∧ WP cd_Mo_reckonAll G R lm 236 = stp G R lm (1, 237, 3, 0, 0, 0, []) (WP cd_Mo_reckonAll G R lm) ∧ WP cd_Mo_reckonAll G R lm 237 = stp G R lm (7, 238, 0, 0, nI 1, 0, []) (WP cd_Mo_reckonAll G R lm) ∧ WP cd_Mo_reckonAll G R lm 238 = stp G R lm (13, 239, 0, 0, 0, 0, []) (WP cd_Mo_reckonAll G R lm) ∧ WP cd_Mo_reckonAll G R lm 239 = stp G R lm (64, 240, 0, 0, 0, 0, []) (WP cd_Mo_reckonAll G R lm) ∧ WP cd_Mo_reckonAll G R lm 240 = stp G R lm (8, 243, 0, 0, 0, (-1000000000), []) (WP cd_Mo_reckonAll G R lm) ∧ WP cd_Mo_reckonAll G R lm 243 = stp G R lm (8, 246, 0, 0, 0, lN 1000000000, []) (WP cd_Mo_reckonAll G R lm) ∧ WP cd_Mo_reckonAll G R lm 246 = stp G R lm (76, 249, 130, 3, 0, 0, []) (WP cd_Mo_reckonAll G R lm) ∧ WP cd_Mo_reckonAll G R lm 249 = stp G R lm (48, 252, 256, 0, 0, 0, []) (WP cd_Mo_reckonAll G R lm) ∧ WP cd_Mo_reckonAll G R lm 252 = stp G R lm (7, 253, 0, 0, nI 1, 0, []) (WP cd_Mo_reckonAll G R lm) ∧ WP cd_Mo_reckonAll G R lm 253 = stp G R lm (40, 257, 0, 0, 0, 0, []) (WP cd_Mo_reckonAll G R lm) ∧ WP cd_Mo_reckonAll G R lm 256 = stp G R lm (7, 257, 0, 0, nI 0, 0, []) (WP cd_Mo_reckonAll G R lm) ∧ WP cd_Mo_reckonAll G R lm 257 = stp G R lm (85, 260, 8, 38, 0, 0, []) (WP cd_Mo_reckonAll G R lm) ∧ WP cd_Mo_reckonAll G R lm 260 = stp G R lm (40, 325, 0, 0, 0, 0, []) (WP cd_Mo_reckonAll G R lm) ∧ WP cd_Mo_reckonAll G R lm 263 = stp G R lm (1, 265, 5, 0, 0, 0, []) (WP cd_Mo_reckonAll G R lm) ∧ WP cd_Mo_reckonAll G R lm 265 = stp G R lm (7, 267, 0, 0, nI 28, 0, []) (WP cd_Mo_reckonAll G R lm) ∧ WP cd_Mo_reckonAll G R lm 267 = stp G R lm (42, 270, 291, 0, 0, 0, []) (WP cd_Mo_reckonAll G R lm) ∧ WP cd_Mo_reckonAll G R lm 270 = stp G R lm (2, 271, 0, 0, 0, 0, []) (WP cd_Mo_reckonAll G R lm) ∧ WP cd_Mo_reckonAll G R lm 271 = stp G R lm (58, 274, 8, 37, 0, 0, []) (WP cd_Mo_reckonAll G R lm) ∧ WP cd_Mo_reckonAll G R lm 274 = stp G R lm (1, 275, 3, 0, 0, 0, []) (WP cd_Mo_reckonAll G R lm) ∧ WP cd_Mo_reckonAll G R lm 275 = stp G R lm (7, 276, 0, 0, nI 1, 0, []) (WP cd_Mo_reckonAll G R lm) ∧ WP cd_Mo_reckonAll G R lm 276 = stp G R lm (13, 277, 0, 0, 0, 0, []) (WP cd_Mo_reckonAll G R lm) ∧ WP cd_Mo_reckonAll G R lm 277 = stp G R lm (8, 278, 0, 0, 0, lN 1, []) (WP cd_Mo_reckonAll G R lm) ∧ WP cd_Mo_reckonAll G R lm 278 = stp G R lm (2, 279, 0, 0, 0, 0, []) (WP cd_Mo_reckonAll G R lm) ∧ WP cd_Mo_reckonAll G R lm 279 = stp G R lm (58, 282, 8, 37, 0, 0, []) (WP cd_Mo_reckonAll G R lm) ∧ WP cd_Mo_reckonAll G R lm 282 = stp G R lm (1, 283, 3, 0, 0, 0, []) (WP cd_Mo_reckonAll G R lm) ∧ WP cd_Mo_reckonAll G R lm 283 = stp G R lm (7, 284, 0, 0, nI 1, 0, []) (WP cd_Mo_reckonAll G R lm) ∧ WP cd_Mo_reckonAll G R lm 284 = stp G R lm (13, 285, 0, 0, 0, 0, []) (WP cd_Mo_reckonAll G R lm) ∧ WP cd_Mo_reckonAll G R lm 285 = stp G R lm (64, 286, 0, 0, 0, 0, []) (WP cd_Mo_reckonAll G R lm) ∧ WP cd_Mo_reckonAll G R lm 286 = stp G R lm (25, 287, 0, 0, 0, 0, []) (WP cd_Mo_reckonAll G R lm) ∧ WP cd_Mo_reckonAll G R lm 287 = stp G R lm (68, 288, 0, 0, 0, 0, []) (WP cd_Mo_reckonAll G R lm) ∧ WP cd_Mo_reckonAll G R lm 288 = stp G R lm (40, 325, 0, 0, 0, 0, []) (WP cd_Mo_reckonAll G R lm) ∧ WP cd_Mo_reckonAll G R lm 291 = stp G R lm (2, 292, 0, 0, 0, 0, []) (WP cd_Mo_reckonAll G R lm) ∧ WP cd_Mo_reckonAll G R lm 292 = stp G R lm (58, 295, 8, 37, 0, 0, []) (WP cd_Mo_reckonAll G R lm) ∧ WP cd_Mo_reckonAll G R lm 295 = stp G R lm (1, 296, 3, 0, 0, 0, []) (WP cd_Mo_reckonAll G R lm) ∧ WP cd_Mo_reckonAll G R lm 296 = stp G R lm (7, 297, 0, 0, nI 1, 0, []) (WP cd_Mo_reckonAll G R lm) ∧ WP cd_Mo_reckonAll G R lm 297 = stp G R lm (13, 298, 0, 0, 0, 0, []) (WP cd_Mo_reckonAll G R lm) ∧ WP cd_Mo_reckonAll G R lm 298 = stp G R lm (64, 299, 0, 0, 0, 0, []) (WP cd_Mo_reckonAll G R lm) ∧ WP cd_Mo_reckonAll G R lm 299 = stp G R lm (1, 301, 5, 0, 0, 0, []) (WP cd_Mo_reckonAll G R lm) ∧ WP cd_Mo_reckonAll G R lm 301 = stp G R lm (7, 303, 0, 0, nI 29, 0, []) (WP cd_Mo_reckonAll G R lm) ∧ WP cd_Mo_reckonAll G R lm 303 = stp G R lm (42, 306, 310, 0, 0, 0, []) (WP cd_Mo_reckonAll G R lm) ∧ WP cd_Mo_reckonAll G R lm 306 = stp G R lm (8, 307, 0, 0, 0, lN 0, []) (WP cd_Mo_reckonAll G R lm) ∧ WP cd_Mo_reckonAll G R lm 307 = stp G R lm (40, 311, 0, 0, 0, 0, []) (WP cd_Mo_reckonAll G R lm) ∧ WP cd_Mo_reckonAll G R lm 310 = stp G R lm (8, 311, 0, 0, 0, lN 1, []) (WP cd_Mo_reckonAll G R lm) ∧ WP cd_Mo_reckonAll G R lm 311 = stp G R lm (35, 312, 0, 0, 0, 0, []) (WP cd_Mo_reckonAll G R lm) ∧ WP cd_Mo_reckonAll G R lm 312 = stp G R lm (48, 315, 322, 0, 0, 0, []) (WP cd_Mo_reckonAll G R lm) ∧ WP cd_Mo_reckonAll G R lm 315 = stp G R lm (1, 317, 6, 0, 0, 0, []) (WP cd_Mo_reckonAll G R lm) ∧ WP cd_Mo_reckonAll G R lm 317 = stp G R lm (4, 319, 4, 0, 0, 0, []) (WP cd_Mo_reckonAll G R lm) ∧ WP cd_Mo_reckonAll G R lm 319 = stp G R lm (40, 325, 0, 0, 0, 0, []) (WP cd_Mo_reckonAll G R lm) ∧ WP cd_Mo_reckonAll G R lm 322 = stp G R lm (11, 325, 3, 0, (-1), 0, []) (WP cd_Mo_reckonAll G R lm) ∧ WP cd_Mo_reckonAll G R lm 325 = stp G R lm (40, 10, 0, 0, 0, 0, []) (WP cd_Mo_reckonAll G R lm) ∧ WP cd_Mo_reckonAll G R lm 328 = stp G R lm (2, 329, 0, 0, 0, 0, []) (WP cd_Mo_reckonAll G R lm) ∧ WP cd_Mo_reckonAll G R lm 329 = stp G R lm (1, 330, 3, 0, 0, 0, []) (WP cd_Mo_reckonAll G R lm) ∧ WP cd_Mo_reckonAll G R lm 330 = stp G R lm (52, 333, 342, 0, 0, 0, []) (WP cd_Mo_reckonAll G R lm) ∧ WP cd_Mo_reckonAll G R lm 333 = stp G R lm (2, 334, 0, 0, 0, 0, []) (WP cd_Mo_reckonAll G R lm) ∧ WP cd_Mo_reckonAll G R lm 334 = stp G R lm (58, 337, 8, 37, 0, 0, []) (WP cd_Mo_reckonAll G R lm) ∧ WP cd_Mo_reckonAll G R lm 337 = stp G R lm (7, 338, 0, 0, nI 0, 0, []) (WP cd_Mo_reckonAll G R lm) ∧ WP cd_Mo_reckonAll G R lm 338 = stp G R lm (64, 339, 0, 0, 0, 0, []) (WP cd_Mo_reckonAll G R lm) ∧ WP cd_Mo_reckonAll G R lm 339 = stp G R lm (40, 343, 0, 0, 0, 0, []) (WP cd_Mo_reckonAll G R lm) ∧ WP cd_Mo_reckonAll G R lm 342 = stp G R lm (8, 343, 0, 0, 0, lN 0, []) (WP cd_Mo_reckonAll G R lm) ∧ WP cd_Mo_reckonAll G R lm 343 = stp G R lm (60, 346, 8, 39, 0, 0, []) (WP cd_Mo_reckonAll G R lm) ∧ WP cd_Mo_reckonAll G R lm 346 = stp G R lm (84, 347, 0, 0, 0, 0, []) (WP cd_Mo_reckonAll G R lm) := ⟨WP_eq hG rfl, WP_eq hG rfl, WP_eq hG rfl, WP_eq hG rfl, WP_eq hG rfl, WP_eq hG rfl, WP_eq hG rfl, WP_eq hG rfl, WP_eq hG rfl, WP_eq hG rfl, WP_eq hG rfl, WP_eq hG rfl, WP_eq hG rfl, WP_eq hG rfl, WP_eq hG rfl, WP_eq hG rfl, WP_eq hG rfl, WP_eq hG rfl, WP_eq hG rfl, WP_eq hG rfl, WP_eq hG rfl, WP_eq hG rfl, WP_eq hG rfl, WP_eq hG rfl, WP_eq hG rfl, WP_eq hG rfl, WP_eq hG rfl, WP_eq hG rfl, WP_eq hG rfl, WP_eq hG rfl, WP_eq hG rfl, WP_eq hG rfl, WP_eq hG rfl, WP_eq hG rfl, WP_eq hG rfl, WP_eq hG rfl, WP_eq hG rfl, WP_eq hG rfl, WP_eq hG rfl, WP_eq hG rfl, WP_eq hG rfl, WP_eq hG rfl, WP_eq hG rfl, WP_eq hG rfl, WP_eq hG rfl, WP_eq hG rfl, WP_eq hG rfl, WP_eq hG rfl, WP_eq hG rfl, WP_eq hG rfl, WP_eq hG rfl, WP_eq hG rfl, WP_eq hG rfl, WP_eq hG rfl, WP_eq hG rfl, WP_eq hG rfl, WP_eq hG rfl, WP_eq hG rfl, WP_eq hG rfl, WP_eq hG rfl, WP_eq hG rfl, WP_eq hG rfl, WP_eq hG rfl, WP_eq hG rfl, WP_eq hG rfl, WP_eq hG rfl, WP_eq hG rfl, WP_eq hG rfl, WP_eq hG rfl, WP_eq hG rfl, WP_eq hG rfl, WP_eq hG rfl, WP_eq hG rfl, WP_eq hG rfl, WP_eq hG rfl, WP_eq hG rfl, WP_eq hG rfl, WP_eq hG rfl, WP_eq hG rfl, WP_eq hG rfl, WP_eq hG rfl, WP_eq hG rfl, WP_eq hG rfl, WP_eq hG rfl, WP_eq hG rfl, WP_eq hG rfl, WP_eq hG rfl, WP_eq hG rfl, WP_eq hG rfl, WP_eq hG rfl, WP_eq hG rfl, WP_eq hG rfl, WP_eq hG rfl, WP_eq hG rfl, WP_eq hG rfl, WP_eq hG rfl, WP_eq hG rfl, WP_eq hG rfl, WP_eq hG rfl, WP_eq hG rfl, WP_eq hG rfl, WP_eq hG rfl, WP_eq hG rfl, WP_eq hG rfl, WP_eq hG rfl, WP_eq hG rfl, WP_eq hG rfl, WP_eq hG rfl, WP_eq hG rfl, WP_eq hG rfl, WP_eq hG rfl, WP_eq hG rfl, WP_eq hG rfl, WP_eq hG rfl, WP_eq hG rfl, WP_eq hG rfl, WP_eq hG rfl, WP_eq hG rfl, WP_eq hG rfl, WP_eq hG rfl, WP_eq hG rfl, WP_eq hG rfl, WP_eq hG rfl, WP_eq hG rfl, WP_eq hG rfl, WP_eq hG rfl, WP_eq hG rfl, WP_eq hG rfl, WP_eq hG rfl, WP_eq hG rfl, WP_eq hG rfl, WP_eq hG rfl, WP_eq hG rfl, WP_eq hG rfl, WP_eq hG rfl, WP_eq hG rfl, WP_eq hG rfl, WP_eq hG rfl, WP_eq hG rfl, WP_eq hG rfl, WP_eq hG rfl, WP_eq hG rfl, WP_eq hG rfl, WP_eq hG rfl, WP_eq hG rfl, WP_eq hG rfl, WP_eq hG rfl, WP_eq hG rfl, WP_eq hG rfl, WP_eq hG rfl, WP_eq hG rfl, WP_eq hG rfl, WP_eq hG rfl, WP_eq hG rfl, WP_eq hG rfl, WP_eq hG rfl, WP_eq hG rfl, WP_eq hG rfl, WP_eq hG rfl, WP_eq hG rfl, WP_eq hG rfl, WP_eq hG rfl, WP_eq hG rfl, WP_eq hG rfl, WP_eq hG rfl, WP_eq hG rfl, WP_eq hG rfl, WP_eq hG rfl, WP_eq hG rfl, WP_eq hG rfl, WP_eq hG rfl, WP_eq hG rfl, WP_eq hG rfl, WP_eq hG rfl, WP_eq hG rfl, WP_eq hG rfl, WP_eq hG rfl, WP_eq hG rfl, WP_eq hG rfl, WP_eq hG rfl, WP_eq hG rfl, WP_eq hG rfl, WP_eq hG rfl, WP_eq hG rfl, WP_eq hG rfl, WP_eq hG rfl, WP_eq hG rfl⟩
/-- the row that is looked at is read: its operation, its argument -/
theorem r_read (d om lb k o b : Nat) (hom : om = 0 ∨ om = 1) {h : MH} (hM : MoS h) (ho : hfi h 273 20 = nI om) (hl : hfi h 273 34 = nI lb) (hlb : lb ≤ 6522) (hm : mcode h om lb k o b) (Q : RT) (lm : Nat × Nat) (fi la n : Int32) (w5 w6 : Option Value) (f : Nat → Int64) :
    WP cd_Mo_reckonAll (callD d) Q lm 23 [] [some (.ref 273), some (.int fi), some (.int la), some (.int n), some (.int (nI k)), w5, w6] (sJA h 293 f) = WP cd_Mo_reckonAll (callD d) Q lm 97 [] [some (.ref 273), some (.int fi), some (.int la), some (.int n), some (.int (nI k)), some (.int (nI o)), some (.int (nI b))] (sJA h 293 f) := by
  obtain ⟨m1, m2, m3, m4, m5, m6, m7, m8, m9, m10, -⟩ := hM.jud
  obtain ⟨hk, ⟨rfl, q1, q2⟩ | ⟨rfl, q1, q2⟩⟩ := hm
  · simp (disch := omega) only [UC_Mo_reckonAll_97 (cm _), SA, SB, SG, SV, m1, m5, m6, m7, m8, m9, m10, ho, q1, q2, eqI, nI_clamp, in_eq, Nat.one_ne_zero, true_implies, not_true_eq_false, not_false_eq_true, false_implies, true_and, and_true]
  · simp (disch := omega) only [UC_Mo_reckonAll_97 (cm _), SA, SB, SG, SV, m1, m2, m3, m4, ho, hl, q1, q2, eqI, pk_mul, nI_add, nI_clamp, in_eq, true_implies, not_true_eq_false, not_false_eq_true, false_implies, true_and, and_true]
theorem MJ_of (h : MH) (f : Nat → Int64) (b : Int32) (v : Int64) : MJ h (sFJ (sFI (sJA h 293 f) 273 (up1 (hfi h 273) 38 b)) 273 (up1 (hfj h 273) 39 v)) := by
  refine ⟨⟨rfl, rfl, rfl, rfl, rfl, rfl, rfl, rfl⟩, fun a k q => ?_, fun a k q => ?_, fun a q => up1_n (hja h) f q⟩
  · show up1 (hfi h) 273 (up1 (hfi h 273) 38 b) a k = hfi h a k
    unfold up1
    split
    · next e => subst e; show (if k = 38 then b else hfi h 273 k) = _; rw [if_neg (by omega)]
    · rfl
  · show up1 (hfj h) 273 (up1 (hfj h 273) 39 v) a k = hfj h a k
    unfold up1
    split
    · next e => subst e; show (if k = 39 then v else hfj h 273 k) = _; rw [if_neg (by omega)]
    · rfl
/-- the end of a run: what lies lowest is the value -/
theorem r_end (d m k la : Nat) (hm : m < 400) (hla : la ≤ 400) (hk : k ≤ 400) (br : Int32) {h : MH} (hM : MoS h) (hbr : br = nI 0 ∨ br = nI 1) (hend : br = nI 1 ∨ la ≤ k) (f : Nat → Int64) (fi : Int32) (w5 w6 : Option Value) (Q : RT) (lm : Nat × Nat) (kk : Q none (sFJ (sFI (sJA h 293 f) 273 (up1 (hfi h 273) 38 br)) 273 (up1 (hfj h 273) 39 (f 0)))) :
    WP cd_Mo_reckonAll (callD d) Q lm 10 [] [some (.ref 273), some (.int fi), some (.int (nI la)), some (.int (nI (m + 1))), some (.int (nI k)), w5, w6] (sFI (sJA h 293 f) 273 (up1 (hfi h 273) 38 br)) := by
  obtain ⟨m1, -, -, -, -, -, -, -, -, -, -, -, -, -, -, -, m2, m3, m4⟩ := hM.jud
  have z1 : ¬ m + 1 ≤ 0 := by omega
  rw [U_Mo_reckonAll_10 (cm _)]
  by_cases c : la ≤ k
  · simp (disch := omega) only [U_Mo_reckonAll (cm _), SA, SB, SG, SV, m1, m2, m3, m4, leI, c, z1, nI_clamp, in_eq, up1_s, up1_n, true_implies, not_true_eq_false, not_false_eq_true, false_implies, true_and, and_true]
    exact kk
  · have e := hend.resolve_right c
    subst e
    simp (disch := omega) only [U_Mo_reckonAll (cm _), SA, SB, SG, SV, m1, m2, m3, m4, leI, c, z1, eqI, Nat.one_ne_zero, nI_clamp, in_eq, up1_s, up1_n, true_implies, not_true_eq_false, not_false_eq_true, false_implies, true_and, and_true]
    exact kk
theorem b01_t {c : Prop} [Decidable c] (h : c) : b01 c = nI 1 := if_pos h
theorem b01_f {c : Prop} [Decidable c] (h : ¬ c) : b01 c = nI 0 := if_neg h
set_option maxHeartbeats 8000000 in
theorem m_l_reck (d om lb i0 la : Nat) (hom : om = 0 ∨ om = 1) {h : MH} (hM : MoS h) (ho : hfi h 273 20 = nI om) (hl : hfi h 273 34 = nI lb) (hlb : lb ≤ 6522) (hb0 : hfi h 273 38 = nI 0) (hla : la ≤ 400) {ins : INS} {e : EV} (he : EOK e) (hC : MC h om lb ins i0 la) (hE : ME h om e) (Q : RT) (lm : Nat × Nat) (fi : Int32) (r : Option (Nat × List Int)) (k1 : r = none → ∀ h', MJ h h' → hfi h' 273 38 = nI 1 → Q none h')
    (k2 : ∀ k s, r = some (k, s) → k = la ∧ ∃ x, s = [x] ∧ ∀ h', MJ h h' → hfi h' 273 38 = nI 0 → hfj h' 273 39 = jI x → Q none h') :
    ∀ (n k : Nat) (s : List Int) (f : Nat → Int64) (w5 w6 : Option Value), Go ins e i0 la 60 n k s r → StJ f s → WP cd_Mo_reckonAll (callD (d + 1)) Q lm 10 [] [some (.ref 273), some (.int fi), some (.int (nI la)), some (.int (nI s.length)), some (.int (nI k)), w5, w6] (sJA h 293 f)
  | 0, k, s, f, w5, w6, g, hs => by
    obtain ⟨rfl, x, rfl, kk⟩ := k2 k s g
    have e1 : sJA h 293 f = sFI (sJA h 293 f) 273 (up1 (hfi h 273) 38 (nI 0)) := by
      rw [up1_same hb0]; exact (sFI_id (sJA h 293 f) 273).symm
    rw [e1]
    refine r_end (d + 1) 0 k k (by omega) hla hla (nI 0) hM (Or.inl rfl) (Or.inr (Nat.le_refl _)) f fi w5 w6 Q lm (kk _ (MJ_of h f (nI 0) (f 0)) ?_ ?_)
    · show up1 (hfi h) 273 (up1 (hfi h 273) 38 (nI 0)) 273 38 = nI 0
      rw [up1_s, up1_s]
    · show up1 (hfj h) 273 (up1 (hfj h 273) 39 (f 0)) 273 39 = jI x
      rw [up1_s, up1_s]; exact hs.1
  | n + 1, k, s, f, w5, w6, g, hs => by
    obtain ⟨⟨⟨p1, p2⟩, p3, p4, p5, p6, p7, p8, p9⟩, g⟩ := g
    have IH := fun k s f w5 w6 => m_l_reck d om lb i0 la hom hM ho hl hlb hb0 hla he hC hE Q lm fi r k1 k2 n k s f w5 w6
    obtain ⟨o, b, o30, b1000, hw, hcode, hin⟩ := hC k p1 p2
    have RD := r_read (d + 1) om lb k o b hom hM ho hl hlb hcode Q lm fi (nI la) (nI s.length) w5 w6 f
    obtain ⟨m1, m2, m3, m4, -, -, -, -, -, -, m5, m6, m7, m8, m9, m10, m11, m12, m13⟩ := hM.jud
    have hkl : ¬ la ≤ k := by omega
    have eid : ∀ f, sFI (sJA h 293 f) 273 (up1 (hfi h 273) 38 (nI 0)) = sJA h 293 f := fun f => by rw [up1_same hb0]; exact sFI_id (sJA h 293 f) 273
    rw [U_Mo_reckonAll_10 (cm _)]
    simp (disch := omega) only [↓RD, UC_Mo_reckonAll_97 (cm _), SA, SB, SG, SV, m1, leI, hkl, hb0, true_implies, not_true_eq_false, not_false_eq_true, false_implies, true_and, and_true]
    by_cases c20 : o < 20
    · have n20 : ¬ 20 ≤ o := by omega
      have push : ∀ z : Int, ins k = (1, z.toNat) ∧ 0 ≤ z ∨ (∃ w, ins k = (2, w) ∧ z = e w) → WP cd_Mo_reckonAll (callD (d + 1)) Q lm 10 [] [some (.ref 273), some (.int fi), some (.int (nI la)), some (.int (nI (s.length + 1))), some (.int (nI (k + 1))), some (.int (nI o)), some (.int (nI b))] (sJA h 293 (up1 f s.length (jI z))) := fun z hz => by
        have st : aStep ins e k s = some (k + 1, z :: s) := by
          rcases hz with ⟨hz, z0⟩ | ⟨w, hz, rfl⟩
          · unfold aStep; rw [hz]
            show some (k + 1, (z.toNat : Int) :: s) = _
            rw [Int.toNat_of_nonneg z0]
          · unfold aStep; rw [hz]; rfl
        rw [st] at g
        exact IH (k + 1) (z :: s) _ _ _ g ⟨by rw [up1_s], StJ_up hs (Nat.le_refl _)⟩
      by_cases c0 : o = 0
      · subst c0
        have P := push (b : Int) (Or.inl ⟨by rw [hin]; rfl, by omega⟩)
        rw [jI_n] at P
        simp (disch := omega) only [U_Mo_reckonAll (cm _), SA, SB, SG, SV, SK, m1, m11, m12, m13, leI, n20, nI_l, nI_add, nI_clamp, in_eq, up1_s, up1_n, up1_up1, Nat.reduceLeDiff, true_implies, not_true_eq_false, not_false_eq_true, false_implies, true_and, and_true]
        exact P
      · have c00 : ¬ nI o = nI 0 := by rw [eqI (by omega) (by omega)]; exact c0
        have hin2 : ins k = (2, if om = 0 then o - 1 else if o = 1 then 5 else if o = 2 then 7 else if o = 3 then 8 else if o = 4 then 4 else if o = 5 then 9 + b else 16 + b) := by
          rw [hin]; unfold dM; rw [if_neg c0, if_pos c20]
        rcases hom with rfl | rfl
        · have o7 := (hw (by omega) c20).1 rfl
          rw [if_pos rfl] at hin2
          have P := push (e (o - 1)) (Or.inr ⟨_, hin2, rfl⟩)
          have E1 := hE.1 rfl (o - 1) (by omega)
          rw [show o - 1 + 1 = o by omega] at E1
          simp (disch := omega) only [U_Mo_reckonAll (cm _), SA, SB, SG, SV, SK, m1, m5, m6, m7, m11, m12, m13, ho, E1, leI, n20, c00, nI_add, nI_clamp, in_eq, up1_s, up1_n, up1_up1, Nat.reduceLeDiff, true_implies, not_true_eq_false, not_false_eq_true, false_implies, true_and, and_true]
          exact P
        · obtain ⟨o6, b6⟩ := (hw (by omega) c20).2 rfl
          rw [if_neg (by omega)] at hin2
          obtain ⟨⟨E1, E2, E3, E4⟩, ER⟩ := hE.2 rfl
          by_cases u1 : o = 1
          · subst u1
            have P := push (e 5) (Or.inr ⟨_, hin2, rfl⟩)
            simp (disch := omega) only [U_Mo_reckonAll (cm _), SA, SB, SC1, SC2, SG, SV, SK, m1, m2, m3, m4, m5, m6, m7, m8, m9, m10, m11, m12, m13, ho, E1, e_routerAt, leI, eqI, Nat.one_ne_zero, iI_j, nI_add, nI_clamp, in_eq, up1_s, up1_n, up1_up1, Nat.reduceLeDiff, Nat.reduceEqDiff, true_implies, not_true_eq_false, not_false_eq_true, false_implies, true_and, and_true]
            exact P
          by_cases u2 : o = 2
          · subst u2
            have P := push (e 7) (Or.inr ⟨_, hin2, rfl⟩)
            simp (disch := omega) only [U_Mo_reckonAll (cm _), SA, SB, SC1, SC2, SG, SV, SK, m1, m2, m3, m4, m5, m6, m7, m8, m9, m10, m11, m12, m13, ho, E2, e_routerAt, leI, eqI, Nat.one_ne_zero, iI_j, nI_add, nI_clamp, in_eq, up1_s, up1_n, up1_up1, Nat.reduceLeDiff, Nat.reduceEqDiff, true_implies, not_true_eq_false, not_false_eq_true, false_implies, true_and, and_true]
            exact P
          by_cases u3 : o = 3
          · subst u3
            have P := push (e 8) (Or.inr ⟨_, hin2, rfl⟩)
            simp (disch := omega) only [U_Mo_reckonAll (cm _), SA, SB, SC1, SC2, SG, SV, SK, m1, m2, m3, m4, m5, m6, m7, m8, m9, m10, m11, m12, m13, ho, E3, e_routerAt, leI, eqI, Nat.one_ne_zero, iI_j, nI_add, nI_clamp, in_eq, up1_s, up1_n, up1_up1, Nat.reduceLeDiff, Nat.reduceEqDiff, true_implies, not_true_eq_false, not_false_eq_true, false_implies, true_and, and_true]
            exact P
          by_cases u4 : o = 4
          · subst u4
            have P := push (e 4) (Or.inr ⟨_, hin2, rfl⟩)
            simp (disch := omega) only [U_Mo_reckonAll (cm _), SA, SB, SC1, SC2, SG, SV, SK, m1, m2, m3, m4, m5, m6, m7, m8, m9, m10, m11, m12, m13, ho, E4, e_routerAt, leI, eqI, Nat.one_ne_zero, iI_j, nI_add, nI_clamp, in_eq, up1_s, up1_n, up1_up1, Nat.reduceLeDiff, Nat.reduceEqDiff, true_implies, not_true_eq_false, not_false_eq_true, false_implies, true_and, and_true]
            exact P
          obtain ⟨F1, F2⟩ := ER b (by omega)
          have re := he (9 + b)
          have rf := he (16 + b)
          by_cases u5 : o = 5
          · subst u5
            have P := push (e (9 + b)) (Or.inr ⟨_, hin2, rfl⟩)
            simp (disch := omega) only [U_Mo_reckonAll (cm _), SA, SB, SC1, SC2, SG, SV, SK, m1, m2, m3, m4, m11, m12, m13, ho, F1, e_routerAt, leI, eqI, Nat.one_ne_zero, iI_j, nI_add, Nat.add_zero, nI_clamp, in_eq, up1_s, up1_n, up1_up1, Nat.reduceLeDiff, Nat.reduceEqDiff, true_implies, not_true_eq_false, not_false_eq_true, false_implies, true_and, and_true]
            exact P
          · have u6 : o = 6 := by omega
            subst u6
            have P := push (e (16 + b)) (Or.inr ⟨_, hin2, rfl⟩)
            simp (disch := omega) only [U_Mo_reckonAll (cm _), SA, SB, SC1, SC2, SG, SV, SK, m1, m2, m3, m4, m11, m12, m13, ho, F2, e_routerAt, leI, eqI, Nat.one_ne_zero, iI_j, nI_add, nI_clamp, in_eq, up1_s, up1_n, up1_up1, Nat.reduceLeDiff, Nat.reduceEqDiff, true_implies, not_true_eq_false, not_false_eq_true, false_implies, true_and, and_true]
            exact P
    · have n20 : 20 ≤ o := by omega
      have hin3 : ins k = if o < 28 then (o - 14, b) else if o = 28 then (3, b) else if o = 29 then (5, b) else (4, b) := by
        rw [hin]; unfold dM; rw [if_neg (by omega), if_neg c20]
      have hs1 := p8 (by rw [hin3]; split; · show 3 ≤ o - 14; omega
                         split; · show 3 ≤ 3; omega
                         split; · show 3 ≤ 5; omega
                         show 3 ≤ 4; omega)
      match s, hs1, hs, p3, p4, p9, g with
      | x :: t, _, hs, p3, p4, p9, g =>
      have bx := p4 x (List.mem_cons_self ..)
      have rx := bd_j bx
      obtain ⟨f1, hs2⟩ := hs
      rw [List.length_cons] at p3
      by_cases c28 : o < 28
      · have n28 : ¬ 28 ≤ o := by omega
        rw [if_pos c28] at hin3
        have hs3 := p9 (by rw [hin3]; show 6 ≤ o - 14; omega)
        match t, hs3, f1, hs2, p3, p4, g with
        | y :: t, _, f1, hs2, p3, p4, g =>
        have by' := p4 y (List.mem_cons_of_mem _ (List.mem_cons_self ..))
        obtain ⟨f2, hs4⟩ := hs2
        rw [List.length_cons] at p3 f1
        have st : aStep ins e k (x :: y :: t) = (aOp (o - 14) y x).map (fun z => (k + 1, z :: t)) := by
          unfold aStep
          rw [hin3]
          simp only
          rw [if_neg (by omega), if_neg (by omega), if_neg (by omega), if_neg (by omega), if_neg (by omega)]
        rw [st] at g
        have RK := e_reckon d (o - 14) (x := y) (y := x) (by omega) (by omega) by' bx (h := sJA h 293 f) m1 hb0
        rw [show o - 14 + 14 = o by omega] at RK
        have m1' : nI (t.length + 1 + 1) + (-1) = nI (t.length + 1) := dn_s (t.length + 1 + 1)
        have rr := rk_r (op := o - 14) by' bx
        have l1 := jI_le (x := -1000000000) (by omega) rr
        have l2 := jI_le rr (y := 1000000000) (by omega)
        have q1 : (-1000000000 : Int64) = jI (-1000000000) := by decide
        have q2 : lN 1000000000 = jI 1000000000 := by decide
        rw [aOp_rk] at g
        by_cases cz : (o - 14 = 9 ∨ o - 14 = 10) ∧ x = 0
        · rw [if_pos cz] at g
          simp only [if_pos cz] at RK
          have EN := r_end (d + 1) t.length (k + 1) la (by omega) hla (by omega) (nI 1) hM (Or.inr rfl) (Or.inl rfl) (up1 f t.length (jI 0)) fi (some (.int (nI o))) (some (.int (nI b))) Q lm (k1 g _ (MJ_of h _ _ _) (by show up1 (hfi h) 273 (up1 (hfi h 273) 38 (nI 1)) 273 38 = nI 1; rw [up1_s, up1_s]))
          simp (disch := omega) only [List.length_cons, U_Mo_reckonAll (cm _), SA, SB, SC1, SC2, SG, SV, SK, SM, m1, m11, m12, m13, m1', f1, f2, RK, leI, n20, n28, eqI, Nat.one_ne_zero, Nat.reduceLeDiff, pk_sub, Nat.add_sub_cancel, nI_add, nI_clamp, in_eq, up1_s, up1_n, up1_up1, true_implies, not_true_eq_false, not_false_eq_true, false_implies, true_and, and_true, true_or, or_true]
          exact EN
        · rw [if_neg cz] at g
          simp only [if_neg cz] at RK
          by_cases ci : -1000000000 ≤ rk (o - 14) y x ∧ rk (o - 14) y x ≤ 1000000000
          · rw [show cl (rk (o - 14) y x) = some (rk (o - 14) y x) from if_pos ci] at g
            have P := IH (k + 1) (rk (o - 14) y x :: t) (up1 f t.length (jI (rk (o - 14) y x))) (some (.int (nI o))) (some (.int (nI b))) g ⟨by rw [up1_s], StJ_up hs4 (Nat.le_refl _)⟩
            have bi : b01 (jI (-1000000000) ≤ jI (rk (o - 14) y x) ∧ jI (rk (o - 14) y x) ≤ jI 1000000000) = nI 1 := b01_t (by rw [l1, l2]; exact ci)
            simp (disch := omega) only [List.length_cons, U_Mo_reckonAll (cm _), SA, SB, SC1, SC2, SG, SV, SK, SM, m1, m11, m12, m13, m1', f1, f2, RK, e_in, q1, q2, bi, eid, hb0, leI, n20, n28, eqI, Nat.one_ne_zero, Nat.reduceLeDiff, pk_sub, Nat.add_sub_cancel, nI_add, nI_clamp, in_eq, up1_s, up1_n, up1_up1, true_implies, not_true_eq_false, not_false_eq_true, false_implies, true_and, and_true, true_or, or_true]
            exact P
          · rw [show cl (rk (o - 14) y x) = none from if_neg ci] at g
            have EN := r_end (d + 1) t.length (k + 1) la (by omega) hla (by omega) (nI 1) hM (Or.inr rfl) (Or.inl rfl) (up1 f t.length (jI (rk (o - 14) y x))) fi (some (.int (nI o))) (some (.int (nI b))) Q lm (k1 g _ (MJ_of h _ _ _) (by show up1 (hfi h) 273 (up1 (hfi h 273) 38 (nI 1)) 273 38 = nI 1; rw [up1_s, up1_s]))
            have bi : b01 (jI (-1000000000) ≤ jI (rk (o - 14) y x) ∧ jI (rk (o - 14) y x) ≤ jI 1000000000) = nI 0 := b01_f (by rw [l1, l2]; exact ci)
            simp (disch := omega) only [List.length_cons, U_Mo_reckonAll (cm _), SA, SB, SC1, SC2, SG, SV, SK, SM, m1, m11, m12, m13, m1', f1, f2, RK, e_in, q1, q2, bi, hb0, leI, n20, n28, eqI, Nat.one_ne_zero, Nat.reduceLeDiff, pk_sub, Nat.add_sub_cancel, nI_add, nI_clamp, in_eq, up1_s, up1_n, up1_up1, true_implies, not_true_eq_false, not_false_eq_true, false_implies, true_and, and_true, true_or, or_true]
            exact EN
      · have n28 : 28 ≤ o := by omega
        rw [if_neg c28] at hin3
        by_cases u28 : o = 28
        · subst u28
          have st : aStep ins e k (x :: t) = some (k + 1, (1 - x) :: t) := by unfold aStep; rw [hin3]; rfl
          rw [st] at g
          have P := IH (k + 1) ((1 - x) :: t) (up1 f t.length (jI (1 - x))) (some (.int (nI 28))) (some (.int (nI b))) g ⟨by rw [up1_s], StJ_up hs2 (Nat.le_refl _)⟩
          simp (disch := omega) only [List.length_cons, U_Mo_reckonAll (cm _), SA, SB, SC1, SC2, SG, SV, SK, SM, m1, m11, m12, m13, f1, jI1, jI_sub, leI, eqI, pk_sub, Nat.add_sub_cancel, nI_add, nI_clamp, in_eq, up1_s, up1_n, up1_up1, Nat.reduceLeDiff, true_implies, not_true_eq_false, not_false_eq_true, false_implies, true_and, and_true, true_or, or_true]
          exact P
        · rw [if_neg u28] at hin3
          have m1' : nI (t.length + 1) + (-1) = nI t.length := dn_s (t.length + 1)
          by_cases u29 : o = 29
          · subst u29
            rw [if_pos rfl] at hin3
            have hx0 := jI_eq rx (y := 0) (by omega)
            by_cases cx : x = 0
            · have st : aStep ins e k (x :: t) = some (b, x :: t) := by unfold aStep; rw [hin3]; show (if x = 0 then _ else _) = _; rw [if_pos cx]
              rw [st] at g
              have P := IH b (x :: t) f (some (.int (nI 29))) (some (.int (nI b))) g ⟨f1, hs2⟩
              rw [List.length_cons] at P
              simp (disch := omega) only [↓SL, LC, List.length_cons, U_Mo_reckonAll (cm _), SA, SB, SC1, SC2, SG, SV, SK, SM, m1, m11, m12, m13, f1, jI0, hx0, cx, leI, eqI, pk_sub, Nat.add_sub_cancel, nI_add, nI_clamp, in_eq, up1_s, up1_n, up1_up1, Nat.reduceLeDiff, Nat.reduceEqDiff, true_implies, not_true_eq_false, not_false_eq_true, false_implies, true_and, and_true, true_or, or_true]
              exact P
            · have st : aStep ins e k (x :: t) = some (k + 1, t) := by unfold aStep; rw [hin3]; show (if x = 0 then _ else _) = _; rw [if_neg cx]
              rw [st] at g
              have P := IH (k + 1) t f (some (.int (nI 29))) (some (.int (nI b))) g hs2
              simp (disch := omega) only [↓SL, LC, List.length_cons, U_Mo_reckonAll (cm _), SA, SB, SC1, SC2, SG, SV, SK, SM, m1, m11, m12, m13, m1', f1, jI0, hx0, cx, leI, eqI, pk_sub, Nat.add_sub_cancel, nI_add, nI_clamp, in_eq, up1_s, up1_n, up1_up1, Nat.reduceLeDiff, Nat.reduceEqDiff, true_implies, not_true_eq_false, not_false_eq_true, false_implies, true_and, and_true, true_or, or_true]
              exact P
          · have u30 : o = 30 := by omega
            subst u30
            rw [if_neg u29] at hin3
            have hx0 := jI_eq rx (y := 1) (by omega)
            by_cases cx : x = 1
            · have st : aStep ins e k (x :: t) = some (b, x :: t) := by unfold aStep; rw [hin3]; show (if x = 1 then _ else _) = _; rw [if_pos cx]
              rw [st] at g
              have P := IH b (x :: t) f (some (.int (nI 30))) (some (.int (nI b))) g ⟨f1, hs2⟩
              rw [List.length_cons] at P
              simp (disch := omega) only [↓SL, LC, List.length_cons, U_Mo_reckonAll (cm _), SA, SB, SC1, SC2, SG, SV, SK, SM, m1, m11, m12, m13, f1, jI1, hx0, cx, leI, eqI, pk_sub, Nat.add_sub_cancel, nI_add, nI_clamp, in_eq, up1_s, up1_n, up1_up1, Nat.reduceLeDiff, Nat.reduceEqDiff, true_implies, not_true_eq_false, not_false_eq_true, false_implies, true_and, and_true, true_or, or_true]
              exact P
            · have st : aStep ins e k (x :: t) = some (k + 1, t) := by unfold aStep; rw [hin3]; show (if x = 1 then _ else _) = _; rw [if_neg cx]
              rw [st] at g
              have P := IH (k + 1) t f (some (.int (nI 30))) (some (.int (nI b))) g hs2
              simp (disch := omega) only [↓SL, LC, List.length_cons, U_Mo_reckonAll (cm _), SA, SB, SC1, SC2, SG, SV, SK, SM, m1, m11, m12, m13, m1', f1, jI1, hx0, cx, leI, eqI, pk_sub, Nat.add_sub_cancel, nI_add, nI_clamp, in_eq, up1_s, up1_n, up1_up1, Nat.reduceLeDiff, Nat.reduceEqDiff, true_implies, not_true_eq_false, not_false_eq_true, false_implies, true_and, and_true, true_or, or_true]
              exact P
theorem MJ.trans {a b c : MH} (x : MJ a b) (y : MJ b c) : MJ a c := by
  obtain ⟨⟨x1, x2, x3, x4, x5, x6, x7, x8⟩, x9, x10, x11⟩ := x
  obtain ⟨⟨y1, y2, y3, y4, y5, y6, y7, y8⟩, y9, y10, y11⟩ := y
  exact ⟨⟨y1.trans x1, y2.trans x2, y3.trans x3, y4.trans x4, y5.trans x5, y6.trans x6, y7.trans x7, y8.trans x8⟩, fun p q z => (y9 p q z).trans (x9 p q z), fun p q z => (y10 p q z).trans (x10 p q z), fun p z => (y11 p z).trans (x11 p z)⟩
theorem MJ.refl (h : MH) : MJ h h := ⟨⟨rfl, rfl, rfl, rfl, rfl, rfl, rfl, rfl⟩, fun _ _ _ => rfl, fun _ _ _ => rfl, fun _ _ => rfl⟩
theorem sJA_id (h : MH) (a : Nat) : sJA h a (hja h a) = h := by
  obtain ⟨a1, a2, a3, a4, a5, a6, a7, a8, a9, a10, a11⟩ := h
  unfold sJA
  simp only [hsz, hcc, hcu, hkd, hln, hfi, hfj, hfr, hia, hja, hra, up1_id]
theorem MJ.b (h : MH) (x : Int32) : MJ h (sFI h 273 (up1 (hfi h 273) 38 x)) := by
  refine ⟨⟨rfl, rfl, rfl, rfl, rfl, rfl, rfl, rfl⟩, fun a k q => ?_, fun _ _ _ => rfl, fun _ _ => rfl⟩
  show up1 (hfi h) 273 (up1 (hfi h 273) 38 x) a k = hfi h a k
  unfold up1
  split
  · next e => subst e; show (if k = 38 then x else hfi h 273 k) = _; rw [if_neg (by omega)]
  · rfl
theorem m_reck (d om lb i la D : Nat) (hom : om = 0 ∨ om = 1) {h : MH} (hM : MoS h) (ho : hfi h 273 20 = nI om) (hl : hfi h 273 34 = nI lb) (hlb : lb ≤ 6522) (hla : la ≤ 400) {l : INS} {e : EV} {v : VAL} (he : EOK e) (hS : Seg l i la D v) (hD : D ≤ 60) (hC : MC h om lb l i la) (hE : ME h om e) (Q : RT) (k1 : v e = none → ∀ h', MJ h h' → hfi h' 273 38 = nI 1 → Q none h')
    (k2 : ∀ x, v e = some x → ∀ h', MJ h h' → hfi h' 273 38 = nI 0 → hfj h' 273 39 = jI x → Q none h') : callD (d + 2) 194 [.ref 273, .int (nI i), .int (nI la)] h Q := by
  obtain ⟨n, g⟩ := hS.2.2 l (fun _ _ _ => rfl) e [] he (fun x hx => by cases hx)
  have g := Go_wide (Nat.le_refl _) (Nat.le_refl _) (L' := 60) (by simp only [List.length_nil]; omega) _ _ _ _ g
  have lit := hS.1
  have B := MJ.b h (nI 0)
  have e20 : hfi (sFI h 273 (up1 (hfi h 273) 38 (nI 0))) 273 20 = nI om := (B.2.1 273 20 (by omega)).trans ho
  have e34 : hfi (sFI h 273 (up1 (hfi h 273) 38 (nI 0))) 273 34 = nI lb := (B.2.1 273 34 (by omega)).trans hl
  have e38 : hfi (sFI h 273 (up1 (hfi h 273) 38 (nI 0))) 273 38 = nI 0 := by
    show up1 (hfi h) 273 (up1 (hfi h 273) 38 (nI 0)) 273 38 = nI 0
    rw [up1_s, up1_s]
  have Y := m_l_reck d om lb i la hom (h := sFI h 273 (up1 (hfi h 273) 38 (nI 0))) (B.S hM) e20 e34 hlb e38 hla he hC hE Q (hcc h, hcu h) (nI i) ((v e).map (fun x => (la, [x]))) (fun z h' m b => by
    cases hv : v e with
    | none => exact k1 hv h' (B.trans m) b
    | some x => rw [hv] at z; cases z) (fun k s z => by
    cases hv : v e with
    | none => rw [hv] at z; cases z
    | some x =>
      rw [hv] at z
      cases z
      exact ⟨rfl, x, rfl, fun h' m b q => k2 x hv h' (B.trans m) b q⟩) n i [] (hja h 293) none none g trivial
  rw [show sJA (sFI h 273 (up1 (hfi h 273) 38 (nI 0))) 293 (hja h 293) = sFI h 273 (up1 (hfi h 273) 38 (nI 0)) from sJA_id (sFI h 273 (up1 (hfi h 273) 38 (nI 0))) 293] at Y
  rw [E_Mo_reckonAll]
  simp (disch := omega) only [U_Mo_reckonAll (cm _), SA, SB, SG, SV, hM.1, true_or, true_and]
  exact Y
